theorem d_law0_714 : decode code 714 = .ok (.iload_n 3, 1) := by decide +kernel
theorem d_law0_715 : decode code 715 = .ok (.iconst 2, 1) := by decide +kernel
theorem d_law0_716 : decode code 716 = .ok (.iadd, 1) := by decide +kernel
theorem d_law0_717 : decode code 717 = .ok (.iaload, 1) := by decide +kernel
theorem d_law0_718 : decode code 718 = .ok (.invokevirtual 76, 3) := by decide +kernel
theorem d_law0_721 : decode code 721 = .ok (.if_icmp .eq 563, 3) := by decide +kernel
theorem d_law0_724 : decode code 724 = .ok (.iconst 0, 1) := by decide +kernel
theorem d_law0_725 : decode code 725 = .ok (.ireturn, 1) := by decide +kernel
theorem d_law0_726 : decode code 726 = .ok (.aload_n 1, 1) := by decide +kernel
theorem d_law0_727 : decode code 727 = .ok (.aload_n 0, 1) := by decide +kernel
theorem d_law0_728 : decode code 728 = .ok (.iload_n 3, 1) := by decide +kernel
theorem d_law0_729 : decode code 729 = .ok (.iconst 1, 1) := by decide +kernel
theorem d_law0_730 : decode code 730 = .ok (.iadd, 1) := by decide +kernel
theorem d_law0_731 : decode code 731 = .ok (.iaload, 1) := by decide +kernel
theorem d_law0_732 : decode code 732 = .ok (.invokevirtual 77, 3) := by decide +kernel
theorem d_law0_735 : decode code 735 = .ok (.aload_n 2, 1) := by decide +kernel
theorem d_law0_736 : decode code 736 = .ok (.aload_n 0, 1) := by decide +kernel
theorem d_law0_737 : decode code 737 = .ok (.iload_n 3, 1) := by decide +kernel
theorem d_law0_738 : decode code 738 = .ok (.iconst 1, 1) := by decide +kernel
theorem d_law0_739 : decode code 739 = .ok (.iadd, 1) := by decide +kernel
theorem d_law0_740 : decode code 740 = .ok (.iaload, 1) := by decide +kernel
theorem d_law0_741 : decode code 741 = .ok (.invokevirtual 80, 3) := by decide +kernel
theorem d_law0_744 : decode code 744 = .ok (.if_icmp .eq 540, 3) := by decide +kernel
theorem d_law0_747 : decode code 747 = .ok (.iconst 0, 1) := by decide +kernel
theorem d_law0_748 : decode code 748 = .ok (.ireturn, 1) := by decide +kernel
theorem d_law0_749 : decode code 749 = .ok (.aload_n 1, 1) := by decide +kernel
theorem d_law0_750 : decode code 750 = .ok (.aload_n 0, 1) := by decide +kernel
theorem d_law0_751 : decode code 751 = .ok (.iload_n 3, 1) := by decide +kernel
theorem d_law0_752 : decode code 752 = .ok (.iconst 1, 1) := by decide +kernel
theorem d_law0_753 : decode code 753 = .ok (.iadd, 1) := by decide +kernel
theorem d_law0_754 : decode code 754 = .ok (.iaload, 1) := by decide +kernel
theorem d_law0_755 : decode code 755 = .ok (.aload_n 0, 1) := by decide +kernel
theorem d_law0_756 : decode code 756 = .ok (.iload_n 3, 1) := by decide +kernel
theorem d_law0_757 : decode code 757 = .ok (.iconst 2, 1) := by decide +kernel
theorem d_law0_758 : decode code 758 = .ok (.iadd, 1) := by decide +kernel
theorem d_law0_759 : decode code 759 = .ok (.iaload, 1) := by decide +kernel
theorem d_law0_760 : decode code 760 = .ok (.aload_n 0, 1) := by decide +kernel
theorem d_law0_761 : decode code 761 = .ok (.iload_n 3, 1) := by decide +kernel
theorem d_law0_762 : decode code 762 = .ok (.iconst 3, 1) := by decide +kernel
theorem d_law0_763 : decode code 763 = .ok (.iadd, 1) := by decide +kernel
theorem d_law0_764 : decode code 764 = .ok (.iaload, 1) := by decide +kernel
theorem d_law0_765 : decode code 765 = .ok (.invokevirtual 81, 3) := by decide +kernel
theorem d_law0_768 : decode code 768 = .ok (.aload_n 2, 1) := by decide +kernel
theorem d_law0_769 : decode code 769 = .ok (.aload_n 0, 1) := by decide +kernel
theorem d_law0_770 : decode code 770 = .ok (.iload_n 3, 1) := by decide +kernel
theorem d_law0_771 : decode code 771 = .ok (.iconst 1, 1) := by decide +kernel
theorem d_law0_772 : decode code 772 = .ok (.iadd, 1) := by decide +kernel
theorem d_law0_773 : decode code 773 = .ok (.iaload, 1) := by decide +kernel
theorem d_law0_774 : decode code 774 = .ok (.aload_n 0, 1) := by decide +kernel
theorem d_law0_775 : decode code 775 = .ok (.iload_n 3, 1) := by decide +kernel
theorem d_law0_776 : decode code 776 = .ok (.iconst 2, 1) := by decide +kernel
theorem d_law0_777 : decode code 777 = .ok (.iadd, 1) := by decide +kernel
theorem d_law0_778 : decode code 778 = .ok (.iaload, 1) := by decide +kernel
theorem d_law0_779 : decode code 779 = .ok (.aload_n 0, 1) := by decide +kernel
theorem d_law0_780 : decode code 780 = .ok (.iload_n 3, 1) := by decide +kernel
theorem d_law0_781 : decode code 781 = .ok (.iconst 3, 1) := by decide +kernel
theorem d_law0_782 : decode code 782 = .ok (.iadd, 1) := by decide +kernel
theorem d_law0_783 : decode code 783 = .ok (.iaload, 1) := by decide +kernel
theorem d_law0_784 : decode code 784 = .ok (.invokevirtual 85, 3) := by decide +kernel
theorem d_law0_787 : decode code 787 = .ok (.if_icmp .eq 497, 3) := by decide +kernel
theorem d_law0_790 : decode code 790 = .ok (.iconst 0, 1) := by decide +kernel
theorem d_law0_791 : decode code 791 = .ok (.ireturn, 1) := by decide +kernel
theorem d_law0_792 : decode code 792 = .ok (.aload_n 1, 1) := by decide +kernel
theorem d_law0_793 : decode code 793 = .ok (.aload_n 0, 1) := by decide +kernel
theorem d_law0_794 : decode code 794 = .ok (.iload_n 3, 1) := by decide +kernel
theorem d_law0_795 : decode code 795 = .ok (.iconst 1, 1) := by decide +kernel
theorem d_law0_796 : decode code 796 = .ok (.iadd, 1) := by decide +kernel
theorem d_law0_797 : decode code 797 = .ok (.iaload, 1) := by decide +kernel
theorem d_law0_798 : decode code 798 = .ok (.invokevirtual 86, 3) := by decide +kernel
theorem d_law0_801 : decode code 801 = .ok (.aload_n 2, 1) := by decide +kernel
theorem d_law0_802 : decode code 802 = .ok (.aload_n 0, 1) := by decide +kernel
theorem d_law0_803 : decode code 803 = .ok (.iload_n 3, 1) := by decide +kernel
theorem d_law0_804 : decode code 804 = .ok (.iconst 1, 1) := by decide +kernel
theorem d_law0_805 : decode code 805 = .ok (.iadd, 1) := by decide +kernel
theorem d_law0_806 : decode code 806 = .ok (.iaload, 1) := by decide +kernel
theorem d_law0_807 : decode code 807 = .ok (.invokevirtual 89, 3) := by decide +kernel
theorem d_law0_810 : decode code 810 = .ok (.if_icmp .eq 474, 3) := by decide +kernel
theorem d_law0_813 : decode code 813 = .ok (.iconst 0, 1) := by decide +kernel
theorem d_law0_814 : decode code 814 = .ok (.ireturn, 1) := by decide +kernel
theorem d_law0_815 : decode code 815 = .ok (.aload_n 1, 1) := by decide +kernel
theorem d_law0_816 : decode code 816 = .ok (.aload_n 0, 1) := by decide +kernel
theorem d_law0_817 : decode code 817 = .ok (.iload_n 3, 1) := by decide +kernel
theorem d_law0_818 : decode code 818 = .ok (.iconst 1, 1) := by decide +kernel
theorem d_law0_819 : decode code 819 = .ok (.iadd, 1) := by decide +kernel
theorem d_law0_820 : decode code 820 = .ok (.iaload, 1) := by decide +kernel
theorem d_law0_821 : decode code 821 = .ok (.aload_n 0, 1) := by decide +kernel
theorem d_law0_822 : decode code 822 = .ok (.iload_n 3, 1) := by decide +kernel
theorem d_law0_823 : decode code 823 = .ok (.iconst 2, 1) := by decide +kernel
theorem d_law0_824 : decode code 824 = .ok (.iadd, 1) := by decide +kernel
theorem d_law0_825 : decode code 825 = .ok (.iaload, 1) := by decide +kernel
theorem d_law0_826 : decode code 826 = .ok (.invokevirtual 90, 3) := by decide +kernel
theorem d_law0_829 : decode code 829 = .ok (.aload_n 2, 1) := by decide +kernel
theorem d_law0_830 : decode code 830 = .ok (.aload_n 0, 1) := by decide +kernel
theorem d_law0_831 : decode code 831 = .ok (.iload_n 3, 1) := by decide +kernel
theorem d_law0_832 : decode code 832 = .ok (.iconst 1, 1) := by decide +kernel
theorem d_law0_833 : decode code 833 = .ok (.iadd, 1) := by decide +kernel
theorem d_law0_834 : decode code 834 = .ok (.iaload, 1) := by decide +kernel
theorem d_law0_835 : decode code 835 = .ok (.aload_n 0, 1) := by decide +kernel
theorem d_law0_836 : decode code 836 = .ok (.iload_n 3, 1) := by decide +kernel
theorem d_law0_837 : decode code 837 = .ok (.iconst 2, 1) := by decide +kernel
theorem d_law0_838 : decode code 838 = .ok (.iadd, 1) := by decide +kernel
theorem d_law0_839 : decode code 839 = .ok (.iaload, 1) := by decide +kernel
theorem d_law0_840 : decode code 840 = .ok (.invokevirtual 93, 3) := by decide +kernel
theorem d_law0_843 : decode code 843 = .ok (.if_icmp .eq 441, 3) := by decide +kernel
theorem d_law0_846 : decode code 846 = .ok (.iconst 0, 1) := by decide +kernel
theorem d_law0_847 : decode code 847 = .ok (.ireturn, 1) := by decide +kernel
theorem d_law0_848 : decode code 848 = .ok (.aload_n 1, 1) := by decide +kernel
theorem d_law0_849 : decode code 849 = .ok (.aload_n 0, 1) := by decide +kernel
theorem d_law0_850 : decode code 850 = .ok (.iload_n 3, 1) := by decide +kernel
theorem d_law0_851 : decode code 851 = .ok (.iconst 1, 1) := by decide +kernel
theorem d_law0_852 : decode code 852 = .ok (.iadd, 1) := by decide +kernel
theorem d_law0_853 : decode code 853 = .ok (.iaload, 1) := by decide +kernel
theorem d_law0_854 : decode code 854 = .ok (.aload_n 0, 1) := by decide +kernel
theorem d_law0_855 : decode code 855 = .ok (.iload_n 3, 1) := by decide +kernel
theorem d_law0_856 : decode code 856 = .ok (.iconst 2, 1) := by decide +kernel
theorem d_law0_857 : decode code 857 = .ok (.iadd, 1) := by decide +kernel
theorem d_law0_858 : decode code 858 = .ok (.iaload, 1) := by decide +kernel
theorem d_law0_859 : decode code 859 = .ok (.aload_n 0, 1) := by decide +kernel
theorem d_law0_860 : decode code 860 = .ok (.iload_n 3, 1) := by decide +kernel
theorem d_law0_861 : decode code 861 = .ok (.iconst 3, 1) := by decide +kernel
theorem d_law0_862 : decode code 862 = .ok (.iadd, 1) := by decide +kernel
theorem d_law0_863 : decode code 863 = .ok (.iaload, 1) := by decide +kernel
theorem d_law0_864 : decode code 864 = .ok (.aload_n 0, 1) := by decide +kernel
theorem d_law0_865 : decode code 865 = .ok (.iload_n 3, 1) := by decide +kernel
theorem d_law0_866 : decode code 866 = .ok (.iconst 4, 1) := by decide +kernel
theorem d_law0_867 : decode code 867 = .ok (.iadd, 1) := by decide +kernel
theorem d_law0_868 : decode code 868 = .ok (.iaload, 1) := by decide +kernel
theorem d_law0_869 : decode code 869 = .ok (.invokevirtual 94, 3) := by decide +kernel
theorem d_law0_872 : decode code 872 = .ok (.aload_n 2, 1) := by decide +kernel
theorem d_law0_873 : decode code 873 = .ok (.aload_n 0, 1) := by decide +kernel
theorem d_law0_874 : decode code 874 = .ok (.iload_n 3, 1) := by decide +kernel
theorem d_law0_875 : decode code 875 = .ok (.iconst 1, 1) := by decide +kernel
theorem d_law0_876 : decode code 876 = .ok (.iadd, 1) := by decide +kernel
theorem d_law0_877 : decode code 877 = .ok (.iaload, 1) := by decide +kernel
theorem d_law0_878 : decode code 878 = .ok (.aload_n 0, 1) := by decide +kernel
theorem d_law0_879 : decode code 879 = .ok (.iload_n 3, 1) := by decide +kernel
theorem d_law0_880 : decode code 880 = .ok (.iconst 2, 1) := by decide +kernel
theorem d_law0_881 : decode code 881 = .ok (.iadd, 1) := by decide +kernel
theorem d_law0_882 : decode code 882 = .ok (.iaload, 1) := by decide +kernel
theorem d_law0_883 : decode code 883 = .ok (.aload_n 0, 1) := by decide +kernel
theorem d_law0_884 : decode code 884 = .ok (.iload_n 3, 1) := by decide +kernel
theorem d_law0_885 : decode code 885 = .ok (.iconst 3, 1) := by decide +kernel
theorem d_law0_886 : decode code 886 = .ok (.iadd, 1) := by decide +kernel
theorem d_law0_887 : decode code 887 = .ok (.iaload, 1) := by decide +kernel
theorem d_law0_888 : decode code 888 = .ok (.aload_n 0, 1) := by decide +kernel
theorem d_law0_889 : decode code 889 = .ok (.iload_n 3, 1) := by decide +kernel
theorem d_law0_890 : decode code 890 = .ok (.iconst 4, 1) := by decide +kernel
theorem d_law0_891 : decode code 891 = .ok (.iadd, 1) := by decide +kernel
theorem d_law0_892 : decode code 892 = .ok (.iaload, 1) := by decide +kernel
theorem d_law0_893 : decode code 893 = .ok (.invokevirtual 97, 3) := by decide +kernel
theorem d_law0_896 : decode code 896 = .ok (.if_icmp .eq 388, 3) := by decide +kernel
theorem d_law0_899 : decode code 899 = .ok (.iconst 0, 1) := by decide +kernel
theorem d_law0_900 : decode code 900 = .ok (.ireturn, 1) := by decide +kernel
theorem d_law0_901 : decode code 901 = .ok (.aload_n 1, 1) := by decide +kernel
theorem d_law0_902 : decode code 902 = .ok (.aload_n 0, 1) := by decide +kernel
theorem d_law0_903 : decode code 903 = .ok (.iload_n 3, 1) := by decide +kernel
theorem d_law0_904 : decode code 904 = .ok (.iconst 1, 1) := by decide +kernel
theorem d_law0_905 : decode code 905 = .ok (.iadd, 1) := by decide +kernel
theorem d_law0_906 : decode code 906 = .ok (.iaload, 1) := by decide +kernel
theorem d_law0_907 : decode code 907 = .ok (.aload_n 0, 1) := by decide +kernel

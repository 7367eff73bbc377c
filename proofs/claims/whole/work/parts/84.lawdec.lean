theorem d_law0_908 : decode code 908 = .ok (.iload_n 3, 1) := by decide +kernel
theorem d_law0_909 : decode code 909 = .ok (.iconst 2, 1) := by decide +kernel
theorem d_law0_910 : decode code 910 = .ok (.iadd, 1) := by decide +kernel
theorem d_law0_911 : decode code 911 = .ok (.iaload, 1) := by decide +kernel
theorem d_law0_912 : decode code 912 = .ok (.invokevirtual 98, 3) := by decide +kernel
theorem d_law0_915 : decode code 915 = .ok (.aload_n 2, 1) := by decide +kernel
theorem d_law0_916 : decode code 916 = .ok (.aload_n 0, 1) := by decide +kernel
theorem d_law0_917 : decode code 917 = .ok (.iload_n 3, 1) := by decide +kernel
theorem d_law0_918 : decode code 918 = .ok (.iconst 1, 1) := by decide +kernel
theorem d_law0_919 : decode code 919 = .ok (.iadd, 1) := by decide +kernel
theorem d_law0_920 : decode code 920 = .ok (.iaload, 1) := by decide +kernel
theorem d_law0_921 : decode code 921 = .ok (.aload_n 0, 1) := by decide +kernel
theorem d_law0_922 : decode code 922 = .ok (.iload_n 3, 1) := by decide +kernel
theorem d_law0_923 : decode code 923 = .ok (.iconst 2, 1) := by decide +kernel
theorem d_law0_924 : decode code 924 = .ok (.iadd, 1) := by decide +kernel
theorem d_law0_925 : decode code 925 = .ok (.iaload, 1) := by decide +kernel
theorem d_law0_926 : decode code 926 = .ok (.invokevirtual 101, 3) := by decide +kernel
theorem d_law0_929 : decode code 929 = .ok (.if_icmp .eq 355, 3) := by decide +kernel
theorem d_law0_932 : decode code 932 = .ok (.iconst 0, 1) := by decide +kernel
theorem d_law0_933 : decode code 933 = .ok (.ireturn, 1) := by decide +kernel
theorem d_law0_934 : decode code 934 = .ok (.aload_n 1, 1) := by decide +kernel
theorem d_law0_935 : decode code 935 = .ok (.aload_n 0, 1) := by decide +kernel
theorem d_law0_936 : decode code 936 = .ok (.iload_n 3, 1) := by decide +kernel
theorem d_law0_937 : decode code 937 = .ok (.iconst 1, 1) := by decide +kernel
theorem d_law0_938 : decode code 938 = .ok (.iadd, 1) := by decide +kernel
theorem d_law0_939 : decode code 939 = .ok (.iaload, 1) := by decide +kernel
theorem d_law0_940 : decode code 940 = .ok (.aload_n 0, 1) := by decide +kernel
theorem d_law0_941 : decode code 941 = .ok (.iload_n 3, 1) := by decide +kernel
theorem d_law0_942 : decode code 942 = .ok (.iconst 2, 1) := by decide +kernel
theorem d_law0_943 : decode code 943 = .ok (.iadd, 1) := by decide +kernel
theorem d_law0_944 : decode code 944 = .ok (.iaload, 1) := by decide +kernel
theorem d_law0_945 : decode code 945 = .ok (.aload_n 0, 1) := by decide +kernel
theorem d_law0_946 : decode code 946 = .ok (.iload_n 3, 1) := by decide +kernel
theorem d_law0_947 : decode code 947 = .ok (.iconst 3, 1) := by decide +kernel
theorem d_law0_948 : decode code 948 = .ok (.iadd, 1) := by decide +kernel
theorem d_law0_949 : decode code 949 = .ok (.iaload, 1) := by decide +kernel
theorem d_law0_950 : decode code 950 = .ok (.invokevirtual 102, 3) := by decide +kernel
theorem d_law0_953 : decode code 953 = .ok (.aload_n 2, 1) := by decide +kernel
theorem d_law0_954 : decode code 954 = .ok (.aload_n 0, 1) := by decide +kernel
theorem d_law0_955 : decode code 955 = .ok (.iload_n 3, 1) := by decide +kernel
theorem d_law0_956 : decode code 956 = .ok (.iconst 1, 1) := by decide +kernel
theorem d_law0_957 : decode code 957 = .ok (.iadd, 1) := by decide +kernel
theorem d_law0_958 : decode code 958 = .ok (.iaload, 1) := by decide +kernel
theorem d_law0_959 : decode code 959 = .ok (.aload_n 0, 1) := by decide +kernel
theorem d_law0_960 : decode code 960 = .ok (.iload_n 3, 1) := by decide +kernel
theorem d_law0_961 : decode code 961 = .ok (.iconst 2, 1) := by decide +kernel
theorem d_law0_962 : decode code 962 = .ok (.iadd, 1) := by decide +kernel
theorem d_law0_963 : decode code 963 = .ok (.iaload, 1) := by decide +kernel
theorem d_law0_964 : decode code 964 = .ok (.aload_n 0, 1) := by decide +kernel
theorem d_law0_965 : decode code 965 = .ok (.iload_n 3, 1) := by decide +kernel
theorem d_law0_966 : decode code 966 = .ok (.iconst 3, 1) := by decide +kernel
theorem d_law0_967 : decode code 967 = .ok (.iadd, 1) := by decide +kernel
theorem d_law0_968 : decode code 968 = .ok (.iaload, 1) := by decide +kernel
theorem d_law0_969 : decode code 969 = .ok (.invokevirtual 105, 3) := by decide +kernel
theorem d_law0_972 : decode code 972 = .ok (.if_icmp .eq 312, 3) := by decide +kernel
theorem d_law0_975 : decode code 975 = .ok (.iconst 0, 1) := by decide +kernel
theorem d_law0_976 : decode code 976 = .ok (.ireturn, 1) := by decide +kernel
theorem d_law0_977 : decode code 977 = .ok (.aload_n 1, 1) := by decide +kernel
theorem d_law0_978 : decode code 978 = .ok (.aload_n 0, 1) := by decide +kernel
theorem d_law0_979 : decode code 979 = .ok (.iload_n 3, 1) := by decide +kernel
theorem d_law0_980 : decode code 980 = .ok (.iconst 1, 1) := by decide +kernel
theorem d_law0_981 : decode code 981 = .ok (.iadd, 1) := by decide +kernel
theorem d_law0_982 : decode code 982 = .ok (.iaload, 1) := by decide +kernel
theorem d_law0_983 : decode code 983 = .ok (.aload_n 0, 1) := by decide +kernel
theorem d_law0_984 : decode code 984 = .ok (.iload_n 3, 1) := by decide +kernel
theorem d_law0_985 : decode code 985 = .ok (.iconst 2, 1) := by decide +kernel
theorem d_law0_986 : decode code 986 = .ok (.iadd, 1) := by decide +kernel
theorem d_law0_987 : decode code 987 = .ok (.iaload, 1) := by decide +kernel
theorem d_law0_988 : decode code 988 = .ok (.aload_n 0, 1) := by decide +kernel
theorem d_law0_989 : decode code 989 = .ok (.iload_n 3, 1) := by decide +kernel
theorem d_law0_990 : decode code 990 = .ok (.iconst 3, 1) := by decide +kernel
theorem d_law0_991 : decode code 991 = .ok (.iadd, 1) := by decide +kernel
theorem d_law0_992 : decode code 992 = .ok (.iaload, 1) := by decide +kernel
theorem d_law0_993 : decode code 993 = .ok (.aload_n 0, 1) := by decide +kernel
theorem d_law0_994 : decode code 994 = .ok (.iload_n 3, 1) := by decide +kernel
theorem d_law0_995 : decode code 995 = .ok (.iconst 4, 1) := by decide +kernel
theorem d_law0_996 : decode code 996 = .ok (.iadd, 1) := by decide +kernel
theorem d_law0_997 : decode code 997 = .ok (.iaload, 1) := by decide +kernel
theorem d_law0_998 : decode code 998 = .ok (.invokevirtual 106, 3) := by decide +kernel
theorem d_law0_1001 : decode code 1001 = .ok (.aload_n 2, 1) := by decide +kernel
theorem d_law0_1002 : decode code 1002 = .ok (.aload_n 0, 1) := by decide +kernel
theorem d_law0_1003 : decode code 1003 = .ok (.iload_n 3, 1) := by decide +kernel
theorem d_law0_1004 : decode code 1004 = .ok (.iconst 1, 1) := by decide +kernel
theorem d_law0_1005 : decode code 1005 = .ok (.iadd, 1) := by decide +kernel
theorem d_law0_1006 : decode code 1006 = .ok (.iaload, 1) := by decide +kernel
theorem d_law0_1007 : decode code 1007 = .ok (.aload_n 0, 1) := by decide +kernel
theorem d_law0_1008 : decode code 1008 = .ok (.iload_n 3, 1) := by decide +kernel
theorem d_law0_1009 : decode code 1009 = .ok (.iconst 2, 1) := by decide +kernel
theorem d_law0_1010 : decode code 1010 = .ok (.iadd, 1) := by decide +kernel
theorem d_law0_1011 : decode code 1011 = .ok (.iaload, 1) := by decide +kernel
theorem d_law0_1012 : decode code 1012 = .ok (.aload_n 0, 1) := by decide +kernel
theorem d_law0_1013 : decode code 1013 = .ok (.iload_n 3, 1) := by decide +kernel
theorem d_law0_1014 : decode code 1014 = .ok (.iconst 3, 1) := by decide +kernel
theorem d_law0_1015 : decode code 1015 = .ok (.iadd, 1) := by decide +kernel
theorem d_law0_1016 : decode code 1016 = .ok (.iaload, 1) := by decide +kernel
theorem d_law0_1017 : decode code 1017 = .ok (.aload_n 0, 1) := by decide +kernel
theorem d_law0_1018 : decode code 1018 = .ok (.iload_n 3, 1) := by decide +kernel
theorem d_law0_1019 : decode code 1019 = .ok (.iconst 4, 1) := by decide +kernel
theorem d_law0_1020 : decode code 1020 = .ok (.iadd, 1) := by decide +kernel
theorem d_law0_1021 : decode code 1021 = .ok (.iaload, 1) := by decide +kernel
theorem d_law0_1022 : decode code 1022 = .ok (.invokevirtual 109, 3) := by decide +kernel
theorem d_law0_1025 : decode code 1025 = .ok (.if_icmp .eq 259, 3) := by decide +kernel
theorem d_law0_1028 : decode code 1028 = .ok (.iconst 0, 1) := by decide +kernel
theorem d_law0_1029 : decode code 1029 = .ok (.ireturn, 1) := by decide +kernel
theorem d_law0_1030 : decode code 1030 = .ok (.aload_n 1, 1) := by decide +kernel
theorem d_law0_1031 : decode code 1031 = .ok (.aload_n 0, 1) := by decide +kernel
theorem d_law0_1032 : decode code 1032 = .ok (.iload_n 3, 1) := by decide +kernel
theorem d_law0_1033 : decode code 1033 = .ok (.iconst 1, 1) := by decide +kernel
theorem d_law0_1034 : decode code 1034 = .ok (.iadd, 1) := by decide +kernel
theorem d_law0_1035 : decode code 1035 = .ok (.iaload, 1) := by decide +kernel
theorem d_law0_1036 : decode code 1036 = .ok (.aload_n 0, 1) := by decide +kernel
theorem d_law0_1037 : decode code 1037 = .ok (.iload_n 3, 1) := by decide +kernel
theorem d_law0_1038 : decode code 1038 = .ok (.iconst 2, 1) := by decide +kernel
theorem d_law0_1039 : decode code 1039 = .ok (.iadd, 1) := by decide +kernel
theorem d_law0_1040 : decode code 1040 = .ok (.iaload, 1) := by decide +kernel
theorem d_law0_1041 : decode code 1041 = .ok (.invokevirtual 110, 3) := by decide +kernel
theorem d_law0_1044 : decode code 1044 = .ok (.aload_n 2, 1) := by decide +kernel
theorem d_law0_1045 : decode code 1045 = .ok (.aload_n 0, 1) := by decide +kernel
theorem d_law0_1046 : decode code 1046 = .ok (.iload_n 3, 1) := by decide +kernel
theorem d_law0_1047 : decode code 1047 = .ok (.iconst 1, 1) := by decide +kernel
theorem d_law0_1048 : decode code 1048 = .ok (.iadd, 1) := by decide +kernel
theorem d_law0_1049 : decode code 1049 = .ok (.iaload, 1) := by decide +kernel
theorem d_law0_1050 : decode code 1050 = .ok (.aload_n 0, 1) := by decide +kernel
theorem d_law0_1051 : decode code 1051 = .ok (.iload_n 3, 1) := by decide +kernel
theorem d_law0_1052 : decode code 1052 = .ok (.iconst 2, 1) := by decide +kernel
theorem d_law0_1053 : decode code 1053 = .ok (.iadd, 1) := by decide +kernel
theorem d_law0_1054 : decode code 1054 = .ok (.iaload, 1) := by decide +kernel
theorem d_law0_1055 : decode code 1055 = .ok (.invokevirtual 113, 3) := by decide +kernel
theorem d_law0_1058 : decode code 1058 = .ok (.if_icmp .eq 226, 3) := by decide +kernel
theorem d_law0_1061 : decode code 1061 = .ok (.iconst 0, 1) := by decide +kernel
theorem d_law0_1062 : decode code 1062 = .ok (.ireturn, 1) := by decide +kernel
theorem d_law0_1063 : decode code 1063 = .ok (.aload_n 1, 1) := by decide +kernel
theorem d_law0_1064 : decode code 1064 = .ok (.aload_n 0, 1) := by decide +kernel
theorem d_law0_1065 : decode code 1065 = .ok (.iload_n 3, 1) := by decide +kernel
theorem d_law0_1066 : decode code 1066 = .ok (.iconst 1, 1) := by decide +kernel
theorem d_law0_1067 : decode code 1067 = .ok (.iadd, 1) := by decide +kernel
theorem d_law0_1068 : decode code 1068 = .ok (.iaload, 1) := by decide +kernel
theorem d_law0_1069 : decode code 1069 = .ok (.aload_n 0, 1) := by decide +kernel
theorem d_law0_1070 : decode code 1070 = .ok (.iload_n 3, 1) := by decide +kernel
theorem d_law0_1071 : decode code 1071 = .ok (.iconst 2, 1) := by decide +kernel
theorem d_law0_1072 : decode code 1072 = .ok (.iadd, 1) := by decide +kernel
theorem d_law0_1073 : decode code 1073 = .ok (.iaload, 1) := by decide +kernel
theorem d_law0_1074 : decode code 1074 = .ok (.aload_n 0, 1) := by decide +kernel
theorem d_law0_1075 : decode code 1075 = .ok (.iload_n 3, 1) := by decide +kernel
theorem d_law0_1076 : decode code 1076 = .ok (.iconst 3, 1) := by decide +kernel
theorem d_law0_1077 : decode code 1077 = .ok (.iadd, 1) := by decide +kernel
theorem d_law0_1078 : decode code 1078 = .ok (.iaload, 1) := by decide +kernel
theorem d_law0_1079 : decode code 1079 = .ok (.aload_n 0, 1) := by decide +kernel
theorem d_law0_1080 : decode code 1080 = .ok (.iload_n 3, 1) := by decide +kernel
theorem d_law0_1081 : decode code 1081 = .ok (.iconst 4, 1) := by decide +kernel
theorem d_law0_1082 : decode code 1082 = .ok (.iadd, 1) := by decide +kernel
theorem d_law0_1083 : decode code 1083 = .ok (.iaload, 1) := by decide +kernel
theorem d_law0_1084 : decode code 1084 = .ok (.invokevirtual 114, 3) := by decide +kernel
theorem d_law0_1087 : decode code 1087 = .ok (.aload_n 2, 1) := by decide +kernel
theorem d_law0_1088 : decode code 1088 = .ok (.aload_n 0, 1) := by decide +kernel
theorem d_law0_1089 : decode code 1089 = .ok (.iload_n 3, 1) := by decide +kernel
theorem d_law0_1090 : decode code 1090 = .ok (.iconst 1, 1) := by decide +kernel
theorem d_law0_1091 : decode code 1091 = .ok (.iadd, 1) := by decide +kernel
theorem d_law0_1092 : decode code 1092 = .ok (.iaload, 1) := by decide +kernel
theorem d_law0_1093 : decode code 1093 = .ok (.aload_n 0, 1) := by decide +kernel

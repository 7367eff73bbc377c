theorem d_law0_516 : decode code 516 = .ok (.aload_n 0, 1) := by decide +kernel
theorem d_law0_517 : decode code 517 = .ok (.iload_n 3, 1) := by decide +kernel
theorem d_law0_518 : decode code 518 = .ok (.iconst 1, 1) := by decide +kernel
theorem d_law0_519 : decode code 519 = .ok (.iadd, 1) := by decide +kernel
theorem d_law0_520 : decode code 520 = .ok (.iaload, 1) := by decide +kernel
theorem d_law0_521 : decode code 521 = .ok (.invokevirtual 46, 3) := by decide +kernel
theorem d_law0_524 : decode code 524 = .ok (.aload_n 2, 1) := by decide +kernel
theorem d_law0_525 : decode code 525 = .ok (.aload_n 0, 1) := by decide +kernel
theorem d_law0_526 : decode code 526 = .ok (.iload_n 3, 1) := by decide +kernel
theorem d_law0_527 : decode code 527 = .ok (.iconst 1, 1) := by decide +kernel
theorem d_law0_528 : decode code 528 = .ok (.iadd, 1) := by decide +kernel
theorem d_law0_529 : decode code 529 = .ok (.iaload, 1) := by decide +kernel
theorem d_law0_530 : decode code 530 = .ok (.invokevirtual 50, 3) := by decide +kernel
theorem d_law0_533 : decode code 533 = .ok (.if_icmp .eq 751, 3) := by decide +kernel
theorem d_law0_536 : decode code 536 = .ok (.iconst 0, 1) := by decide +kernel
theorem d_law0_537 : decode code 537 = .ok (.ireturn, 1) := by decide +kernel
theorem d_law0_538 : decode code 538 = .ok (.aload_n 1, 1) := by decide +kernel
theorem d_law0_539 : decode code 539 = .ok (.aload_n 0, 1) := by decide +kernel
theorem d_law0_540 : decode code 540 = .ok (.iload_n 3, 1) := by decide +kernel
theorem d_law0_541 : decode code 541 = .ok (.iconst 1, 1) := by decide +kernel
theorem d_law0_542 : decode code 542 = .ok (.iadd, 1) := by decide +kernel
theorem d_law0_543 : decode code 543 = .ok (.iaload, 1) := by decide +kernel
theorem d_law0_544 : decode code 544 = .ok (.invokevirtual 51, 3) := by decide +kernel
theorem d_law0_547 : decode code 547 = .ok (.aload_n 2, 1) := by decide +kernel
theorem d_law0_548 : decode code 548 = .ok (.aload_n 0, 1) := by decide +kernel
theorem d_law0_549 : decode code 549 = .ok (.iload_n 3, 1) := by decide +kernel
theorem d_law0_550 : decode code 550 = .ok (.iconst 1, 1) := by decide +kernel
theorem d_law0_551 : decode code 551 = .ok (.iadd, 1) := by decide +kernel
theorem d_law0_552 : decode code 552 = .ok (.iaload, 1) := by decide +kernel
theorem d_law0_553 : decode code 553 = .ok (.invokevirtual 55, 3) := by decide +kernel
theorem d_law0_556 : decode code 556 = .ok (.if_icmp .eq 728, 3) := by decide +kernel
theorem d_law0_559 : decode code 559 = .ok (.iconst 0, 1) := by decide +kernel
theorem d_law0_560 : decode code 560 = .ok (.ireturn, 1) := by decide +kernel
theorem d_law0_561 : decode code 561 = .ok (.aload_n 1, 1) := by decide +kernel
theorem d_law0_562 : decode code 562 = .ok (.aload_n 0, 1) := by decide +kernel
theorem d_law0_563 : decode code 563 = .ok (.iload_n 3, 1) := by decide +kernel
theorem d_law0_564 : decode code 564 = .ok (.iconst 1, 1) := by decide +kernel
theorem d_law0_565 : decode code 565 = .ok (.iadd, 1) := by decide +kernel
theorem d_law0_566 : decode code 566 = .ok (.iaload, 1) := by decide +kernel
theorem d_law0_567 : decode code 567 = .ok (.invokevirtual 56, 3) := by decide +kernel
theorem d_law0_570 : decode code 570 = .ok (.aload_n 2, 1) := by decide +kernel
theorem d_law0_571 : decode code 571 = .ok (.aload_n 0, 1) := by decide +kernel
theorem d_law0_572 : decode code 572 = .ok (.iload_n 3, 1) := by decide +kernel
theorem d_law0_573 : decode code 573 = .ok (.iconst 1, 1) := by decide +kernel
theorem d_law0_574 : decode code 574 = .ok (.iadd, 1) := by decide +kernel
theorem d_law0_575 : decode code 575 = .ok (.iaload, 1) := by decide +kernel
theorem d_law0_576 : decode code 576 = .ok (.invokevirtual 59, 3) := by decide +kernel
theorem d_law0_579 : decode code 579 = .ok (.if_icmp .eq 705, 3) := by decide +kernel
theorem d_law0_582 : decode code 582 = .ok (.iconst 0, 1) := by decide +kernel
theorem d_law0_583 : decode code 583 = .ok (.ireturn, 1) := by decide +kernel
theorem d_law0_584 : decode code 584 = .ok (.aload_n 1, 1) := by decide +kernel
theorem d_law0_585 : decode code 585 = .ok (.aload_n 0, 1) := by decide +kernel
theorem d_law0_586 : decode code 586 = .ok (.iload_n 3, 1) := by decide +kernel
theorem d_law0_587 : decode code 587 = .ok (.iconst 1, 1) := by decide +kernel
theorem d_law0_588 : decode code 588 = .ok (.iadd, 1) := by decide +kernel
theorem d_law0_589 : decode code 589 = .ok (.iaload, 1) := by decide +kernel
theorem d_law0_590 : decode code 590 = .ok (.aload_n 0, 1) := by decide +kernel
theorem d_law0_591 : decode code 591 = .ok (.iload_n 3, 1) := by decide +kernel
theorem d_law0_592 : decode code 592 = .ok (.iconst 2, 1) := by decide +kernel
theorem d_law0_593 : decode code 593 = .ok (.iadd, 1) := by decide +kernel
theorem d_law0_594 : decode code 594 = .ok (.iaload, 1) := by decide +kernel
theorem d_law0_595 : decode code 595 = .ok (.invokevirtual 60, 3) := by decide +kernel
theorem d_law0_598 : decode code 598 = .ok (.aload_n 2, 1) := by decide +kernel
theorem d_law0_599 : decode code 599 = .ok (.aload_n 0, 1) := by decide +kernel
theorem d_law0_600 : decode code 600 = .ok (.iload_n 3, 1) := by decide +kernel
theorem d_law0_601 : decode code 601 = .ok (.iconst 1, 1) := by decide +kernel
theorem d_law0_602 : decode code 602 = .ok (.iadd, 1) := by decide +kernel
theorem d_law0_603 : decode code 603 = .ok (.iaload, 1) := by decide +kernel
theorem d_law0_604 : decode code 604 = .ok (.aload_n 0, 1) := by decide +kernel
theorem d_law0_605 : decode code 605 = .ok (.iload_n 3, 1) := by decide +kernel
theorem d_law0_606 : decode code 606 = .ok (.iconst 2, 1) := by decide +kernel
theorem d_law0_607 : decode code 607 = .ok (.iadd, 1) := by decide +kernel
theorem d_law0_608 : decode code 608 = .ok (.iaload, 1) := by decide +kernel
theorem d_law0_609 : decode code 609 = .ok (.invokevirtual 64, 3) := by decide +kernel
theorem d_law0_612 : decode code 612 = .ok (.if_icmp .eq 672, 3) := by decide +kernel
theorem d_law0_615 : decode code 615 = .ok (.iconst 0, 1) := by decide +kernel
theorem d_law0_616 : decode code 616 = .ok (.ireturn, 1) := by decide +kernel
theorem d_law0_617 : decode code 617 = .ok (.aload_n 1, 1) := by decide +kernel
theorem d_law0_618 : decode code 618 = .ok (.aload_n 0, 1) := by decide +kernel
theorem d_law0_619 : decode code 619 = .ok (.iload_n 3, 1) := by decide +kernel
theorem d_law0_620 : decode code 620 = .ok (.iconst 1, 1) := by decide +kernel
theorem d_law0_621 : decode code 621 = .ok (.iadd, 1) := by decide +kernel
theorem d_law0_622 : decode code 622 = .ok (.iaload, 1) := by decide +kernel
theorem d_law0_623 : decode code 623 = .ok (.aload_n 0, 1) := by decide +kernel
theorem d_law0_624 : decode code 624 = .ok (.iload_n 3, 1) := by decide +kernel
theorem d_law0_625 : decode code 625 = .ok (.iconst 2, 1) := by decide +kernel
theorem d_law0_626 : decode code 626 = .ok (.iadd, 1) := by decide +kernel
theorem d_law0_627 : decode code 627 = .ok (.iaload, 1) := by decide +kernel
theorem d_law0_628 : decode code 628 = .ok (.aload_n 0, 1) := by decide +kernel
theorem d_law0_629 : decode code 629 = .ok (.iload_n 3, 1) := by decide +kernel
theorem d_law0_630 : decode code 630 = .ok (.iconst 3, 1) := by decide +kernel
theorem d_law0_631 : decode code 631 = .ok (.iadd, 1) := by decide +kernel
theorem d_law0_632 : decode code 632 = .ok (.iaload, 1) := by decide +kernel
theorem d_law0_633 : decode code 633 = .ok (.invokevirtual 65, 3) := by decide +kernel
theorem d_law0_636 : decode code 636 = .ok (.aload_n 2, 1) := by decide +kernel
theorem d_law0_637 : decode code 637 = .ok (.aload_n 0, 1) := by decide +kernel
theorem d_law0_638 : decode code 638 = .ok (.iload_n 3, 1) := by decide +kernel
theorem d_law0_639 : decode code 639 = .ok (.iconst 1, 1) := by decide +kernel
theorem d_law0_640 : decode code 640 = .ok (.iadd, 1) := by decide +kernel
theorem d_law0_641 : decode code 641 = .ok (.iaload, 1) := by decide +kernel
theorem d_law0_642 : decode code 642 = .ok (.aload_n 0, 1) := by decide +kernel
theorem d_law0_643 : decode code 643 = .ok (.iload_n 3, 1) := by decide +kernel
theorem d_law0_644 : decode code 644 = .ok (.iconst 2, 1) := by decide +kernel
theorem d_law0_645 : decode code 645 = .ok (.iadd, 1) := by decide +kernel
theorem d_law0_646 : decode code 646 = .ok (.iaload, 1) := by decide +kernel
theorem d_law0_647 : decode code 647 = .ok (.aload_n 0, 1) := by decide +kernel
theorem d_law0_648 : decode code 648 = .ok (.iload_n 3, 1) := by decide +kernel
theorem d_law0_649 : decode code 649 = .ok (.iconst 3, 1) := by decide +kernel
theorem d_law0_650 : decode code 650 = .ok (.iadd, 1) := by decide +kernel
theorem d_law0_651 : decode code 651 = .ok (.iaload, 1) := by decide +kernel
theorem d_law0_652 : decode code 652 = .ok (.invokevirtual 68, 3) := by decide +kernel
theorem d_law0_655 : decode code 655 = .ok (.if_icmp .eq 629, 3) := by decide +kernel
theorem d_law0_658 : decode code 658 = .ok (.iconst 0, 1) := by decide +kernel
theorem d_law0_659 : decode code 659 = .ok (.ireturn, 1) := by decide +kernel
theorem d_law0_660 : decode code 660 = .ok (.aload_n 1, 1) := by decide +kernel
theorem d_law0_661 : decode code 661 = .ok (.aload_n 0, 1) := by decide +kernel
theorem d_law0_662 : decode code 662 = .ok (.iload_n 3, 1) := by decide +kernel
theorem d_law0_663 : decode code 663 = .ok (.iconst 1, 1) := by decide +kernel
theorem d_law0_664 : decode code 664 = .ok (.iadd, 1) := by decide +kernel
theorem d_law0_665 : decode code 665 = .ok (.iaload, 1) := by decide +kernel
theorem d_law0_666 : decode code 666 = .ok (.aload_n 0, 1) := by decide +kernel
theorem d_law0_667 : decode code 667 = .ok (.iload_n 3, 1) := by decide +kernel
theorem d_law0_668 : decode code 668 = .ok (.iconst 2, 1) := by decide +kernel
theorem d_law0_669 : decode code 669 = .ok (.iadd, 1) := by decide +kernel
theorem d_law0_670 : decode code 670 = .ok (.iaload, 1) := by decide +kernel
theorem d_law0_671 : decode code 671 = .ok (.invokevirtual 69, 3) := by decide +kernel
theorem d_law0_674 : decode code 674 = .ok (.aload_n 2, 1) := by decide +kernel
theorem d_law0_675 : decode code 675 = .ok (.aload_n 0, 1) := by decide +kernel
theorem d_law0_676 : decode code 676 = .ok (.iload_n 3, 1) := by decide +kernel
theorem d_law0_677 : decode code 677 = .ok (.iconst 1, 1) := by decide +kernel
theorem d_law0_678 : decode code 678 = .ok (.iadd, 1) := by decide +kernel
theorem d_law0_679 : decode code 679 = .ok (.iaload, 1) := by decide +kernel
theorem d_law0_680 : decode code 680 = .ok (.aload_n 0, 1) := by decide +kernel
theorem d_law0_681 : decode code 681 = .ok (.iload_n 3, 1) := by decide +kernel
theorem d_law0_682 : decode code 682 = .ok (.iconst 2, 1) := by decide +kernel
theorem d_law0_683 : decode code 683 = .ok (.iadd, 1) := by decide +kernel
theorem d_law0_684 : decode code 684 = .ok (.iaload, 1) := by decide +kernel
theorem d_law0_685 : decode code 685 = .ok (.invokevirtual 72, 3) := by decide +kernel
theorem d_law0_688 : decode code 688 = .ok (.if_icmp .eq 596, 3) := by decide +kernel
theorem d_law0_691 : decode code 691 = .ok (.iconst 0, 1) := by decide +kernel
theorem d_law0_692 : decode code 692 = .ok (.ireturn, 1) := by decide +kernel
theorem d_law0_693 : decode code 693 = .ok (.aload_n 1, 1) := by decide +kernel
theorem d_law0_694 : decode code 694 = .ok (.aload_n 0, 1) := by decide +kernel
theorem d_law0_695 : decode code 695 = .ok (.iload_n 3, 1) := by decide +kernel
theorem d_law0_696 : decode code 696 = .ok (.iconst 1, 1) := by decide +kernel
theorem d_law0_697 : decode code 697 = .ok (.iadd, 1) := by decide +kernel
theorem d_law0_698 : decode code 698 = .ok (.iaload, 1) := by decide +kernel
theorem d_law0_699 : decode code 699 = .ok (.aload_n 0, 1) := by decide +kernel
theorem d_law0_700 : decode code 700 = .ok (.iload_n 3, 1) := by decide +kernel
theorem d_law0_701 : decode code 701 = .ok (.iconst 2, 1) := by decide +kernel
theorem d_law0_702 : decode code 702 = .ok (.iadd, 1) := by decide +kernel
theorem d_law0_703 : decode code 703 = .ok (.iaload, 1) := by decide +kernel
theorem d_law0_704 : decode code 704 = .ok (.invokevirtual 73, 3) := by decide +kernel
theorem d_law0_707 : decode code 707 = .ok (.aload_n 2, 1) := by decide +kernel
theorem d_law0_708 : decode code 708 = .ok (.aload_n 0, 1) := by decide +kernel
theorem d_law0_709 : decode code 709 = .ok (.iload_n 3, 1) := by decide +kernel
theorem d_law0_710 : decode code 710 = .ok (.iconst 1, 1) := by decide +kernel
theorem d_law0_711 : decode code 711 = .ok (.iadd, 1) := by decide +kernel
theorem d_law0_712 : decode code 712 = .ok (.iaload, 1) := by decide +kernel
theorem d_law0_713 : decode code 713 = .ok (.aload_n 0, 1) := by decide +kernel

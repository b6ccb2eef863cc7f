theorem d_La_law_580 : decode code 580 = .ok (.iload 4, 2) := by decide +kernel
theorem d_La_law_582 : decode code 582 = .ok (.iconst (2), 1) := by decide +kernel
theorem d_La_law_583 : decode code 583 = .ok (.iadd, 1) := by decide +kernel
theorem d_La_law_584 : decode code 584 = .ok (.iaload, 1) := by decide +kernel
theorem d_La_law_585 : decode code 585 = .ok (.aload_n 0, 1) := by decide +kernel
theorem d_La_law_586 : decode code 586 = .ok (.iload 4, 2) := by decide +kernel
theorem d_La_law_588 : decode code 588 = .ok (.iconst (3), 1) := by decide +kernel
theorem d_La_law_589 : decode code 589 = .ok (.iadd, 1) := by decide +kernel
theorem d_La_law_590 : decode code 590 = .ok (.iaload, 1) := by decide +kernel
theorem d_La_law_591 : decode code 591 = .ok (.aload_n 3, 1) := by decide +kernel
theorem d_La_law_592 : decode code 592 = .ok (.invokestatic 97, 3) := by decide +kernel
theorem d_La_law_595 : decode code 595 = .ok (.istore 5, 2) := by decide +kernel
theorem d_La_law_597 : decode code 597 = .ok (.aload_n 2, 1) := by decide +kernel
theorem d_La_law_598 : decode code 598 = .ok (.aload_n 0, 1) := by decide +kernel
theorem d_La_law_599 : decode code 599 = .ok (.iload 4, 2) := by decide +kernel
theorem d_La_law_601 : decode code 601 = .ok (.iconst (1), 1) := by decide +kernel
theorem d_La_law_602 : decode code 602 = .ok (.iadd, 1) := by decide +kernel
theorem d_La_law_603 : decode code 603 = .ok (.iaload, 1) := by decide +kernel
theorem d_La_law_604 : decode code 604 = .ok (.aload_n 0, 1) := by decide +kernel
theorem d_La_law_605 : decode code 605 = .ok (.iload 4, 2) := by decide +kernel
theorem d_La_law_607 : decode code 607 = .ok (.iconst (2), 1) := by decide +kernel
theorem d_La_law_608 : decode code 608 = .ok (.iadd, 1) := by decide +kernel
theorem d_La_law_609 : decode code 609 = .ok (.iaload, 1) := by decide +kernel
theorem d_La_law_610 : decode code 610 = .ok (.aload_n 0, 1) := by decide +kernel
theorem d_La_law_611 : decode code 611 = .ok (.iload 4, 2) := by decide +kernel
theorem d_La_law_613 : decode code 613 = .ok (.iconst (3), 1) := by decide +kernel
theorem d_La_law_614 : decode code 614 = .ok (.iadd, 1) := by decide +kernel
theorem d_La_law_615 : decode code 615 = .ok (.iaload, 1) := by decide +kernel
theorem d_La_law_616 : decode code 616 = .ok (.invokevirtual 99, 3) := by decide +kernel
theorem d_La_law_619 : decode code 619 = .ok (.lstore 6, 2) := by decide +kernel
theorem d_La_law_621 : decode code 621 = .ok (.aload_n 2, 1) := by decide +kernel
theorem d_La_law_622 : decode code 622 = .ok (.invokevirtual 90, 3) := by decide +kernel
theorem d_La_law_625 : decode code 625 = .ok (.iload 5, 2) := by decide +kernel
theorem d_La_law_627 : decode code 627 = .ok (.if_icmp .eq (5), 3) := by decide +kernel
theorem d_La_law_630 : decode code 630 = .ok (.iconst (0), 1) := by decide +kernel
theorem d_La_law_631 : decode code 631 = .ok (.ireturn, 1) := by decide +kernel
theorem d_La_law_632 : decode code 632 = .ok (.iload 5, 2) := by decide +kernel
theorem d_La_law_634 : decode code 634 = .ok (.ifCond .ne (14), 3) := by decide +kernel
theorem d_La_law_637 : decode code 637 = .ok (.aload_n 3, 1) := by decide +kernel
theorem d_La_law_638 : decode code 638 = .ok (.iconst (0), 1) := by decide +kernel
theorem d_La_law_639 : decode code 639 = .ok (.laload, 1) := by decide +kernel
theorem d_La_law_640 : decode code 640 = .ok (.lload 6, 2) := by decide +kernel
theorem d_La_law_642 : decode code 642 = .ok (.lcmp, 1) := by decide +kernel
theorem d_La_law_643 : decode code 643 = .ok (.ifCond .eq (5), 3) := by decide +kernel
theorem d_La_law_646 : decode code 646 = .ok (.iconst (0), 1) := by decide +kernel
theorem d_La_law_647 : decode code 647 = .ok (.ireturn, 1) := by decide +kernel
theorem d_La_law_648 : decode code 648 = .ok (.goto (381), 3) := by decide +kernel
theorem d_La_law_651 : decode code 651 = .ok (.aload_n 1, 1) := by decide +kernel
theorem d_La_law_652 : decode code 652 = .ok (.aload_n 0, 1) := by decide +kernel
theorem d_La_law_653 : decode code 653 = .ok (.iload 4, 2) := by decide +kernel
theorem d_La_law_655 : decode code 655 = .ok (.iconst (1), 1) := by decide +kernel
theorem d_La_law_656 : decode code 656 = .ok (.iadd, 1) := by decide +kernel
theorem d_La_law_657 : decode code 657 = .ok (.iaload, 1) := by decide +kernel
theorem d_La_law_658 : decode code 658 = .ok (.aload_n 0, 1) := by decide +kernel
theorem d_La_law_659 : decode code 659 = .ok (.iload 4, 2) := by decide +kernel
theorem d_La_law_661 : decode code 661 = .ok (.iconst (2), 1) := by decide +kernel
theorem d_La_law_662 : decode code 662 = .ok (.iadd, 1) := by decide +kernel
theorem d_La_law_663 : decode code 663 = .ok (.iaload, 1) := by decide +kernel
theorem d_La_law_664 : decode code 664 = .ok (.aload_n 0, 1) := by decide +kernel
theorem d_La_law_665 : decode code 665 = .ok (.iload 4, 2) := by decide +kernel
theorem d_La_law_667 : decode code 667 = .ok (.iconst (3), 1) := by decide +kernel
theorem d_La_law_668 : decode code 668 = .ok (.iadd, 1) := by decide +kernel
theorem d_La_law_669 : decode code 669 = .ok (.iaload, 1) := by decide +kernel
theorem d_La_law_670 : decode code 670 = .ok (.aload_n 0, 1) := by decide +kernel
theorem d_La_law_671 : decode code 671 = .ok (.iload 4, 2) := by decide +kernel
theorem d_La_law_673 : decode code 673 = .ok (.iconst (4), 1) := by decide +kernel
theorem d_La_law_674 : decode code 674 = .ok (.iadd, 1) := by decide +kernel
theorem d_La_law_675 : decode code 675 = .ok (.iaload, 1) := by decide +kernel
theorem d_La_law_676 : decode code 676 = .ok (.aload_n 3, 1) := by decide +kernel
theorem d_La_law_677 : decode code 677 = .ok (.invokestatic 100, 3) := by decide +kernel
theorem d_La_law_680 : decode code 680 = .ok (.istore 5, 2) := by decide +kernel
theorem d_La_law_682 : decode code 682 = .ok (.aload_n 2, 1) := by decide +kernel
theorem d_La_law_683 : decode code 683 = .ok (.aload_n 0, 1) := by decide +kernel
theorem d_La_law_684 : decode code 684 = .ok (.iload 4, 2) := by decide +kernel
theorem d_La_law_686 : decode code 686 = .ok (.iconst (1), 1) := by decide +kernel
theorem d_La_law_687 : decode code 687 = .ok (.iadd, 1) := by decide +kernel
theorem d_La_law_688 : decode code 688 = .ok (.iaload, 1) := by decide +kernel
theorem d_La_law_689 : decode code 689 = .ok (.aload_n 0, 1) := by decide +kernel
theorem d_La_law_690 : decode code 690 = .ok (.iload 4, 2) := by decide +kernel
theorem d_La_law_692 : decode code 692 = .ok (.iconst (2), 1) := by decide +kernel
theorem d_La_law_693 : decode code 693 = .ok (.iadd, 1) := by decide +kernel
theorem d_La_law_694 : decode code 694 = .ok (.iaload, 1) := by decide +kernel
theorem d_La_law_695 : decode code 695 = .ok (.aload_n 0, 1) := by decide +kernel
theorem d_La_law_696 : decode code 696 = .ok (.iload 4, 2) := by decide +kernel
theorem d_La_law_698 : decode code 698 = .ok (.iconst (3), 1) := by decide +kernel
theorem d_La_law_699 : decode code 699 = .ok (.iadd, 1) := by decide +kernel
theorem d_La_law_700 : decode code 700 = .ok (.iaload, 1) := by decide +kernel
theorem d_La_law_701 : decode code 701 = .ok (.aload_n 0, 1) := by decide +kernel
theorem d_La_law_702 : decode code 702 = .ok (.iload 4, 2) := by decide +kernel
theorem d_La_law_704 : decode code 704 = .ok (.iconst (4), 1) := by decide +kernel
theorem d_La_law_705 : decode code 705 = .ok (.iadd, 1) := by decide +kernel
theorem d_La_law_706 : decode code 706 = .ok (.iaload, 1) := by decide +kernel
theorem d_La_law_707 : decode code 707 = .ok (.invokevirtual 103, 3) := by decide +kernel
theorem d_La_law_710 : decode code 710 = .ok (.lstore 6, 2) := by decide +kernel
theorem d_La_law_712 : decode code 712 = .ok (.aload_n 2, 1) := by decide +kernel
theorem d_La_law_713 : decode code 713 = .ok (.invokevirtual 90, 3) := by decide +kernel
theorem d_La_law_716 : decode code 716 = .ok (.iload 5, 2) := by decide +kernel
theorem d_La_law_718 : decode code 718 = .ok (.if_icmp .eq (5), 3) := by decide +kernel
theorem d_La_law_721 : decode code 721 = .ok (.iconst (0), 1) := by decide +kernel
theorem d_La_law_722 : decode code 722 = .ok (.ireturn, 1) := by decide +kernel
theorem d_La_law_723 : decode code 723 = .ok (.iload 5, 2) := by decide +kernel
theorem d_La_law_725 : decode code 725 = .ok (.ifCond .ne (14), 3) := by decide +kernel
theorem d_La_law_728 : decode code 728 = .ok (.aload_n 3, 1) := by decide +kernel
theorem d_La_law_729 : decode code 729 = .ok (.iconst (0), 1) := by decide +kernel
theorem d_La_law_730 : decode code 730 = .ok (.laload, 1) := by decide +kernel
theorem d_La_law_731 : decode code 731 = .ok (.lload 6, 2) := by decide +kernel
theorem d_La_law_733 : decode code 733 = .ok (.lcmp, 1) := by decide +kernel
theorem d_La_law_734 : decode code 734 = .ok (.ifCond .eq (5), 3) := by decide +kernel
theorem d_La_law_737 : decode code 737 = .ok (.iconst (0), 1) := by decide +kernel
theorem d_La_law_738 : decode code 738 = .ok (.ireturn, 1) := by decide +kernel
theorem d_La_law_739 : decode code 739 = .ok (.goto (290), 3) := by decide +kernel
theorem d_La_law_742 : decode code 742 = .ok (.aload_n 1, 1) := by decide +kernel
theorem d_La_law_743 : decode code 743 = .ok (.aload_n 0, 1) := by decide +kernel
theorem d_La_law_744 : decode code 744 = .ok (.iload 4, 2) := by decide +kernel
theorem d_La_law_746 : decode code 746 = .ok (.iconst (1), 1) := by decide +kernel
theorem d_La_law_747 : decode code 747 = .ok (.iadd, 1) := by decide +kernel
theorem d_La_law_748 : decode code 748 = .ok (.iaload, 1) := by decide +kernel
theorem d_La_law_749 : decode code 749 = .ok (.aload_n 0, 1) := by decide +kernel
theorem d_La_law_750 : decode code 750 = .ok (.iload 4, 2) := by decide +kernel
theorem d_La_law_752 : decode code 752 = .ok (.iconst (2), 1) := by decide +kernel
theorem d_La_law_753 : decode code 753 = .ok (.iadd, 1) := by decide +kernel
theorem d_La_law_754 : decode code 754 = .ok (.iaload, 1) := by decide +kernel
theorem d_La_law_755 : decode code 755 = .ok (.aload_n 0, 1) := by decide +kernel
theorem d_La_law_756 : decode code 756 = .ok (.iload 4, 2) := by decide +kernel
theorem d_La_law_758 : decode code 758 = .ok (.iconst (3), 1) := by decide +kernel
theorem d_La_law_759 : decode code 759 = .ok (.iadd, 1) := by decide +kernel
theorem d_La_law_760 : decode code 760 = .ok (.iaload, 1) := by decide +kernel
theorem d_La_law_761 : decode code 761 = .ok (.aload_n 3, 1) := by decide +kernel
theorem d_La_law_762 : decode code 762 = .ok (.invokestatic 104, 3) := by decide +kernel
theorem d_La_law_765 : decode code 765 = .ok (.istore 5, 2) := by decide +kernel
theorem d_La_law_767 : decode code 767 = .ok (.aload_n 2, 1) := by decide +kernel
theorem d_La_law_768 : decode code 768 = .ok (.aload_n 0, 1) := by decide +kernel
theorem d_La_law_769 : decode code 769 = .ok (.iload 4, 2) := by decide +kernel
theorem d_La_law_771 : decode code 771 = .ok (.iconst (1), 1) := by decide +kernel
theorem d_La_law_772 : decode code 772 = .ok (.iadd, 1) := by decide +kernel
theorem d_La_law_773 : decode code 773 = .ok (.iaload, 1) := by decide +kernel
theorem d_La_law_774 : decode code 774 = .ok (.aload_n 0, 1) := by decide +kernel
theorem d_La_law_775 : decode code 775 = .ok (.iload 4, 2) := by decide +kernel
theorem d_La_law_777 : decode code 777 = .ok (.iconst (2), 1) := by decide +kernel
theorem d_La_law_778 : decode code 778 = .ok (.iadd, 1) := by decide +kernel
theorem d_La_law_779 : decode code 779 = .ok (.iaload, 1) := by decide +kernel
theorem d_La_law_780 : decode code 780 = .ok (.aload_n 0, 1) := by decide +kernel
theorem d_La_law_781 : decode code 781 = .ok (.iload 4, 2) := by decide +kernel
theorem d_La_law_783 : decode code 783 = .ok (.iconst (3), 1) := by decide +kernel
theorem d_La_law_784 : decode code 784 = .ok (.iadd, 1) := by decide +kernel
theorem d_La_law_785 : decode code 785 = .ok (.iaload, 1) := by decide +kernel
theorem d_La_law_786 : decode code 786 = .ok (.invokevirtual 106, 3) := by decide +kernel
theorem d_La_law_789 : decode code 789 = .ok (.lstore 6, 2) := by decide +kernel
theorem d_La_law_791 : decode code 791 = .ok (.aload_n 2, 1) := by decide +kernel
theorem d_La_law_792 : decode code 792 = .ok (.invokevirtual 90, 3) := by decide +kernel
theorem d_La_law_795 : decode code 795 = .ok (.iload 5, 2) := by decide +kernel
theorem d_La_law_797 : decode code 797 = .ok (.if_icmp .eq (5), 3) := by decide +kernel
theorem d_La_law_800 : decode code 800 = .ok (.iconst (0), 1) := by decide +kernel
theorem d_La_law_801 : decode code 801 = .ok (.ireturn, 1) := by decide +kernel
theorem d_La_law_802 : decode code 802 = .ok (.iload 5, 2) := by decide +kernel
theorem d_La_law_804 : decode code 804 = .ok (.ifCond .ne (14), 3) := by decide +kernel
theorem d_La_law_807 : decode code 807 = .ok (.aload_n 3, 1) := by decide +kernel
theorem d_La_law_808 : decode code 808 = .ok (.iconst (0), 1) := by decide +kernel
theorem d_La_law_809 : decode code 809 = .ok (.laload, 1) := by decide +kernel
theorem d_La_law_810 : decode code 810 = .ok (.lload 6, 2) := by decide +kernel
theorem d_La_law_812 : decode code 812 = .ok (.lcmp, 1) := by decide +kernel
theorem d_La_law_813 : decode code 813 = .ok (.ifCond .eq (5), 3) := by decide +kernel
theorem d_La_law_816 : decode code 816 = .ok (.iconst (0), 1) := by decide +kernel
theorem d_La_law_817 : decode code 817 = .ok (.ireturn, 1) := by decide +kernel
theorem d_La_law_818 : decode code 818 = .ok (.goto (211), 3) := by decide +kernel
theorem d_La_law_821 : decode code 821 = .ok (.aload_n 1, 1) := by decide +kernel
theorem d_La_law_822 : decode code 822 = .ok (.aload_n 0, 1) := by decide +kernel
theorem d_La_law_823 : decode code 823 = .ok (.iload 4, 2) := by decide +kernel
theorem d_La_law_825 : decode code 825 = .ok (.iconst (1), 1) := by decide +kernel
theorem d_La_law_826 : decode code 826 = .ok (.iadd, 1) := by decide +kernel

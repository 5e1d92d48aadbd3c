theorem dLW_law_697 : decode code 697 = .ok (.iaload, 1) := by decide +kernel
theorem dLW_law_698 : decode code 698 = .ok (.aload_n 0, 1) := by decide +kernel
theorem dLW_law_699 : decode code 699 = .ok (.iload 4, 2) := by decide +kernel
theorem dLW_law_701 : decode code 701 = .ok (.iconst 2, 1) := by decide +kernel
theorem dLW_law_702 : decode code 702 = .ok (.iadd, 1) := by decide +kernel
theorem dLW_law_703 : decode code 703 = .ok (.iaload, 1) := by decide +kernel
theorem dLW_law_704 : decode code 704 = .ok (.i2l, 1) := by decide +kernel
theorem dLW_law_705 : decode code 705 = .ok (.bipush 32, 2) := by decide +kernel
theorem dLW_law_707 : decode code 707 = .ok (.lshl, 1) := by decide +kernel
theorem dLW_law_708 : decode code 708 = .ok (.aload_n 0, 1) := by decide +kernel
theorem dLW_law_709 : decode code 709 = .ok (.iload 4, 2) := by decide +kernel
theorem dLW_law_711 : decode code 711 = .ok (.iconst 3, 1) := by decide +kernel
theorem dLW_law_712 : decode code 712 = .ok (.iadd, 1) := by decide +kernel
theorem dLW_law_713 : decode code 713 = .ok (.iaload, 1) := by decide +kernel
theorem dLW_law_714 : decode code 714 = .ok (.i2l, 1) := by decide +kernel
theorem dLW_law_715 : decode code 715 = .ok (.ldc2_w 102, 3) := by decide +kernel
theorem dLW_law_718 : decode code 718 = .ok (.land, 1) := by decide +kernel
theorem dLW_law_719 : decode code 719 = .ok (.lor, 1) := by decide +kernel
theorem dLW_law_720 : decode code 720 = .ok (.invokevirtual 107, 3) := by decide +kernel
theorem dLW_law_723 : decode code 723 = .ok (.istore 6, 2) := by decide +kernel
theorem dLW_law_725 : decode code 725 = .ok (.aload_n 2, 1) := by decide +kernel
theorem dLW_law_726 : decode code 726 = .ok (.invokevirtual 68, 3) := by decide +kernel
theorem dLW_law_729 : decode code 729 = .ok (.iload 5, 2) := by decide +kernel
theorem dLW_law_731 : decode code 731 = .ok (.if_icmp .eq 5, 3) := by decide +kernel
theorem dLW_law_734 : decode code 734 = .ok (.iconst 0, 1) := by decide +kernel
theorem dLW_law_735 : decode code 735 = .ok (.ireturn, 1) := by decide +kernel
theorem dLW_law_736 : decode code 736 = .ok (.iload 5, 2) := by decide +kernel
theorem dLW_law_738 : decode code 738 = .ok (.ifCond .ne 15, 3) := by decide +kernel
theorem dLW_law_741 : decode code 741 = .ok (.aload_n 3, 1) := by decide +kernel
theorem dLW_law_742 : decode code 742 = .ok (.iconst 0, 1) := by decide +kernel
theorem dLW_law_743 : decode code 743 = .ok (.laload, 1) := by decide +kernel
theorem dLW_law_744 : decode code 744 = .ok (.iload 6, 2) := by decide +kernel
theorem dLW_law_746 : decode code 746 = .ok (.i2l, 1) := by decide +kernel
theorem dLW_law_747 : decode code 747 = .ok (.lcmp, 1) := by decide +kernel
theorem dLW_law_748 : decode code 748 = .ok (.ifCond .eq 5, 3) := by decide +kernel
theorem dLW_law_751 : decode code 751 = .ok (.iconst 0, 1) := by decide +kernel
theorem dLW_law_752 : decode code 752 = .ok (.ireturn, 1) := by decide +kernel
theorem dLW_law_753 : decode code 753 = .ok (.goto 178, 3) := by decide +kernel
theorem dLW_law_756 : decode code 756 = .ok (.aload_n 1, 1) := by decide +kernel
theorem dLW_law_757 : decode code 757 = .ok (.invokevirtual 108, 3) := by decide +kernel
theorem dLW_law_760 : decode code 760 = .ok (.aload_n 2, 1) := by decide +kernel
theorem dLW_law_761 : decode code 761 = .ok (.invokevirtual 111, 3) := by decide +kernel
theorem dLW_law_764 : decode code 764 = .ok (.if_icmp .eq 167, 3) := by decide +kernel
theorem dLW_law_767 : decode code 767 = .ok (.iconst 0, 1) := by decide +kernel
theorem dLW_law_768 : decode code 768 = .ok (.ireturn, 1) := by decide +kernel
theorem dLW_law_769 : decode code 769 = .ok (.aload_n 1, 1) := by decide +kernel
theorem dLW_law_770 : decode code 770 = .ok (.aload_n 0, 1) := by decide +kernel
theorem dLW_law_771 : decode code 771 = .ok (.iload 4, 2) := by decide +kernel
theorem dLW_law_773 : decode code 773 = .ok (.iconst 1, 1) := by decide +kernel
theorem dLW_law_774 : decode code 774 = .ok (.iadd, 1) := by decide +kernel
theorem dLW_law_775 : decode code 775 = .ok (.iaload, 1) := by decide +kernel
theorem dLW_law_776 : decode code 776 = .ok (.invokevirtual 112, 3) := by decide +kernel
theorem dLW_law_779 : decode code 779 = .ok (.aload_n 2, 1) := by decide +kernel
theorem dLW_law_780 : decode code 780 = .ok (.aload_n 0, 1) := by decide +kernel
theorem dLW_law_781 : decode code 781 = .ok (.iload 4, 2) := by decide +kernel
theorem dLW_law_783 : decode code 783 = .ok (.iconst 1, 1) := by decide +kernel
theorem dLW_law_784 : decode code 784 = .ok (.iadd, 1) := by decide +kernel
theorem dLW_law_785 : decode code 785 = .ok (.iaload, 1) := by decide +kernel
theorem dLW_law_786 : decode code 786 = .ok (.invokevirtual 115, 3) := by decide +kernel
theorem dLW_law_789 : decode code 789 = .ok (.if_icmp .eq 142, 3) := by decide +kernel

theorem dLW_law_683 : decode code 683 = .ok (.invokevirtual 120, 3) := by decide +kernel
theorem dLW_law_686 : decode code 686 = .ok (.iload 5, 2) := by decide +kernel
theorem dLW_law_688 : decode code 688 = .ok (.if_icmp .eq 5, 3) := by decide +kernel
theorem dLW_law_691 : decode code 691 = .ok (.iconst 0, 1) := by decide +kernel
theorem dLW_law_692 : decode code 692 = .ok (.ireturn, 1) := by decide +kernel
theorem dLW_law_693 : decode code 693 = .ok (.iload 5, 2) := by decide +kernel
theorem dLW_law_695 : decode code 695 = .ok (.ifCond .ne 15, 3) := by decide +kernel
theorem dLW_law_698 : decode code 698 = .ok (.aload_n 3, 1) := by decide +kernel
theorem dLW_law_699 : decode code 699 = .ok (.iconst 0, 1) := by decide +kernel
theorem dLW_law_700 : decode code 700 = .ok (.laload, 1) := by decide +kernel
theorem dLW_law_701 : decode code 701 = .ok (.iload 6, 2) := by decide +kernel
theorem dLW_law_703 : decode code 703 = .ok (.i2l, 1) := by decide +kernel
theorem dLW_law_704 : decode code 704 = .ok (.lcmp, 1) := by decide +kernel
theorem dLW_law_705 : decode code 705 = .ok (.ifCond .eq 5, 3) := by decide +kernel
theorem dLW_law_708 : decode code 708 = .ok (.iconst 0, 1) := by decide +kernel
theorem dLW_law_709 : decode code 709 = .ok (.ireturn, 1) := by decide +kernel
theorem dLW_law_710 : decode code 710 = .ok (.goto 31, 3) := by decide +kernel
theorem dLW_law_713 : decode code 713 = .ok (.aload_n 1, 1) := by decide +kernel
theorem dLW_law_714 : decode code 714 = .ok (.aload_n 0, 1) := by decide +kernel
theorem dLW_law_715 : decode code 715 = .ok (.iload 4, 2) := by decide +kernel
theorem dLW_law_717 : decode code 717 = .ok (.iconst 1, 1) := by decide +kernel
theorem dLW_law_718 : decode code 718 = .ok (.iadd, 1) := by decide +kernel
theorem dLW_law_719 : decode code 719 = .ok (.iaload, 1) := by decide +kernel
theorem dLW_law_720 : decode code 720 = .ok (.aload_n 3, 1) := by decide +kernel
theorem dLW_law_721 : decode code 721 = .ok (.invokestatic 123, 3) := by decide +kernel
theorem dLW_law_724 : decode code 724 = .ok (.istore 5, 2) := by decide +kernel
theorem dLW_law_726 : decode code 726 = .ok (.aload_n 2, 1) := by decide +kernel
theorem dLW_law_727 : decode code 727 = .ok (.aload_n 0, 1) := by decide +kernel
theorem dLW_law_728 : decode code 728 = .ok (.iload 4, 2) := by decide +kernel
theorem dLW_law_730 : decode code 730 = .ok (.iconst 1, 1) := by decide +kernel
theorem dLW_law_731 : decode code 731 = .ok (.iadd, 1) := by decide +kernel
theorem dLW_law_732 : decode code 732 = .ok (.iaload, 1) := by decide +kernel
theorem dLW_law_733 : decode code 733 = .ok (.invokevirtual 126, 3) := by decide +kernel
theorem dLW_law_736 : decode code 736 = .ok (.istore 6, 2) := by decide +kernel
theorem dLW_law_738 : decode code 738 = .ok (.goto 3, 3) := by decide +kernel
theorem dLW_law_741 : decode code 741 = .ok (.iinc 4 6, 3) := by decide +kernel
theorem dLW_law_744 : decode code 744 = .ok (.goto (-701), 3) := by decide +kernel
theorem dLW_law_747 : decode code 747 = .ok (.iconst 1, 1) := by decide +kernel
theorem dLW_law_748 : decode code 748 = .ok (.ireturn, 1) := by decide +kernel

theorem dLW_law_685 : decode code 685 = .ok (.aload_n 1, 1) := by decide +kernel
theorem dLW_law_686 : decode code 686 = .ok (.aload_n 0, 1) := by decide +kernel
theorem dLW_law_687 : decode code 687 = .ok (.iload 4, 2) := by decide +kernel
theorem dLW_law_689 : decode code 689 = .ok (.iconst 1, 1) := by decide +kernel
theorem dLW_law_690 : decode code 690 = .ok (.iadd, 1) := by decide +kernel
theorem dLW_law_691 : decode code 691 = .ok (.iaload, 1) := by decide +kernel
theorem dLW_law_692 : decode code 692 = .ok (.aload_n 3, 1) := by decide +kernel
theorem dLW_law_693 : decode code 693 = .ok (.invokestatic 120, 3) := by decide +kernel
theorem dLW_law_696 : decode code 696 = .ok (.istore 5, 2) := by decide +kernel
theorem dLW_law_698 : decode code 698 = .ok (.aload_n 2, 1) := by decide +kernel
theorem dLW_law_699 : decode code 699 = .ok (.aload_n 0, 1) := by decide +kernel
theorem dLW_law_700 : decode code 700 = .ok (.iload 4, 2) := by decide +kernel
theorem dLW_law_702 : decode code 702 = .ok (.iconst 1, 1) := by decide +kernel
theorem dLW_law_703 : decode code 703 = .ok (.iadd, 1) := by decide +kernel
theorem dLW_law_704 : decode code 704 = .ok (.iaload, 1) := by decide +kernel
theorem dLW_law_705 : decode code 705 = .ok (.invokevirtual 123, 3) := by decide +kernel
theorem dLW_law_708 : decode code 708 = .ok (.istore 6, 2) := by decide +kernel
theorem dLW_law_710 : decode code 710 = .ok (.aload_n 2, 1) := by decide +kernel
theorem dLW_law_711 : decode code 711 = .ok (.invokevirtual 124, 3) := by decide +kernel
theorem dLW_law_714 : decode code 714 = .ok (.iload 5, 2) := by decide +kernel
theorem dLW_law_716 : decode code 716 = .ok (.if_icmp .eq 5, 3) := by decide +kernel
theorem dLW_law_719 : decode code 719 = .ok (.iconst 0, 1) := by decide +kernel
theorem dLW_law_720 : decode code 720 = .ok (.ireturn, 1) := by decide +kernel
theorem dLW_law_721 : decode code 721 = .ok (.iload 5, 2) := by decide +kernel
theorem dLW_law_723 : decode code 723 = .ok (.ifCond .ne 15, 3) := by decide +kernel
theorem dLW_law_726 : decode code 726 = .ok (.aload_n 3, 1) := by decide +kernel
theorem dLW_law_727 : decode code 727 = .ok (.iconst 0, 1) := by decide +kernel
theorem dLW_law_728 : decode code 728 = .ok (.laload, 1) := by decide +kernel
theorem dLW_law_729 : decode code 729 = .ok (.iload 6, 2) := by decide +kernel
theorem dLW_law_731 : decode code 731 = .ok (.i2l, 1) := by decide +kernel
theorem dLW_law_732 : decode code 732 = .ok (.lcmp, 1) := by decide +kernel
theorem dLW_law_733 : decode code 733 = .ok (.ifCond .eq 5, 3) := by decide +kernel
theorem dLW_law_736 : decode code 736 = .ok (.iconst 0, 1) := by decide +kernel
theorem dLW_law_737 : decode code 737 = .ok (.ireturn, 1) := by decide +kernel
theorem dLW_law_738 : decode code 738 = .ok (.goto 3, 3) := by decide +kernel
theorem dLW_law_741 : decode code 741 = .ok (.iinc 4 6, 3) := by decide +kernel
theorem dLW_law_744 : decode code 744 = .ok (.goto (-701), 3) := by decide +kernel
theorem dLW_law_747 : decode code 747 = .ok (.iconst 1, 1) := by decide +kernel
theorem dLW_law_748 : decode code 748 = .ok (.ireturn, 1) := by decide +kernel

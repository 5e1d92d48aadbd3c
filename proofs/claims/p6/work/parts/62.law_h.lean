theorem dLW_law_685 : decode code 685 = .ok (.iconst 2, 1) := by decide +kernel
theorem dLW_law_686 : decode code 686 = .ok (.iadd, 1) := by decide +kernel
theorem dLW_law_687 : decode code 687 = .ok (.iaload, 1) := by decide +kernel
theorem dLW_law_688 : decode code 688 = .ok (.invokevirtual 122, 3) := by decide +kernel
theorem dLW_law_691 : decode code 691 = .ok (.istore 6, 2) := by decide +kernel
theorem dLW_law_693 : decode code 693 = .ok (.goto 31, 3) := by decide +kernel
theorem dLW_law_696 : decode code 696 = .ok (.aload_n 1, 1) := by decide +kernel
theorem dLW_law_697 : decode code 697 = .ok (.aload_n 0, 1) := by decide +kernel
theorem dLW_law_698 : decode code 698 = .ok (.iload 4, 2) := by decide +kernel
theorem dLW_law_700 : decode code 700 = .ok (.iconst 1, 1) := by decide +kernel
theorem dLW_law_701 : decode code 701 = .ok (.iadd, 1) := by decide +kernel
theorem dLW_law_702 : decode code 702 = .ok (.iaload, 1) := by decide +kernel
theorem dLW_law_703 : decode code 703 = .ok (.aload_n 3, 1) := by decide +kernel
theorem dLW_law_704 : decode code 704 = .ok (.invokestatic 123, 3) := by decide +kernel
theorem dLW_law_707 : decode code 707 = .ok (.istore 5, 2) := by decide +kernel
theorem dLW_law_709 : decode code 709 = .ok (.aload_n 2, 1) := by decide +kernel
theorem dLW_law_710 : decode code 710 = .ok (.aload_n 0, 1) := by decide +kernel
theorem dLW_law_711 : decode code 711 = .ok (.iload 4, 2) := by decide +kernel
theorem dLW_law_713 : decode code 713 = .ok (.iconst 1, 1) := by decide +kernel
theorem dLW_law_714 : decode code 714 = .ok (.iadd, 1) := by decide +kernel
theorem dLW_law_715 : decode code 715 = .ok (.iaload, 1) := by decide +kernel
theorem dLW_law_716 : decode code 716 = .ok (.invokevirtual 126, 3) := by decide +kernel
theorem dLW_law_719 : decode code 719 = .ok (.istore 6, 2) := by decide +kernel
theorem dLW_law_721 : decode code 721 = .ok (.goto 3, 3) := by decide +kernel
theorem dLW_law_724 : decode code 724 = .ok (.iinc 4 6, 3) := by decide +kernel
theorem dLW_law_727 : decode code 727 = .ok (.goto (-684), 3) := by decide +kernel
theorem dLW_law_730 : decode code 730 = .ok (.iconst 1, 1) := by decide +kernel
theorem dLW_law_731 : decode code 731 = .ok (.ireturn, 1) := by decide +kernel

theorem dLW_law_882 : decode code 882 = .ok (.aload_n 3, 1) := by decide +kernel
theorem dLW_law_883 : decode code 883 = .ok (.invokestatic 123, 3) := by decide +kernel
theorem dLW_law_886 : decode code 886 = .ok (.istore 5, 2) := by decide +kernel
theorem dLW_law_888 : decode code 888 = .ok (.aload_n 2, 1) := by decide +kernel
theorem dLW_law_889 : decode code 889 = .ok (.aload_n 0, 1) := by decide +kernel
theorem dLW_law_890 : decode code 890 = .ok (.iload 4, 2) := by decide +kernel
theorem dLW_law_892 : decode code 892 = .ok (.iconst 1, 1) := by decide +kernel
theorem dLW_law_893 : decode code 893 = .ok (.iadd, 1) := by decide +kernel
theorem dLW_law_894 : decode code 894 = .ok (.iaload, 1) := by decide +kernel
theorem dLW_law_895 : decode code 895 = .ok (.invokevirtual 126, 3) := by decide +kernel
theorem dLW_law_898 : decode code 898 = .ok (.istore 6, 2) := by decide +kernel
theorem dLW_law_900 : decode code 900 = .ok (.aload_n 2, 1) := by decide +kernel
theorem dLW_law_901 : decode code 901 = .ok (.invokevirtual 68, 3) := by decide +kernel
theorem dLW_law_904 : decode code 904 = .ok (.iload 5, 2) := by decide +kernel
theorem dLW_law_906 : decode code 906 = .ok (.if_icmp .eq 5, 3) := by decide +kernel
theorem dLW_law_909 : decode code 909 = .ok (.iconst 0, 1) := by decide +kernel
theorem dLW_law_910 : decode code 910 = .ok (.ireturn, 1) := by decide +kernel
theorem dLW_law_911 : decode code 911 = .ok (.iload 5, 2) := by decide +kernel
theorem dLW_law_913 : decode code 913 = .ok (.ifCond .ne 15, 3) := by decide +kernel
theorem dLW_law_916 : decode code 916 = .ok (.aload_n 3, 1) := by decide +kernel
theorem dLW_law_917 : decode code 917 = .ok (.iconst 0, 1) := by decide +kernel
theorem dLW_law_918 : decode code 918 = .ok (.laload, 1) := by decide +kernel
theorem dLW_law_919 : decode code 919 = .ok (.iload 6, 2) := by decide +kernel
theorem dLW_law_921 : decode code 921 = .ok (.i2l, 1) := by decide +kernel
theorem dLW_law_922 : decode code 922 = .ok (.lcmp, 1) := by decide +kernel
theorem dLW_law_923 : decode code 923 = .ok (.ifCond .eq 5, 3) := by decide +kernel
theorem dLW_law_926 : decode code 926 = .ok (.iconst 0, 1) := by decide +kernel
theorem dLW_law_927 : decode code 927 = .ok (.ireturn, 1) := by decide +kernel
theorem dLW_law_928 : decode code 928 = .ok (.goto 3, 3) := by decide +kernel
theorem dLW_law_931 : decode code 931 = .ok (.iinc 4 6, 3) := by decide +kernel
theorem dLW_law_934 : decode code 934 = .ok (.goto (-891), 3) := by decide +kernel
theorem dLW_law_937 : decode code 937 = .ok (.iconst 1, 1) := by decide +kernel
theorem dLW_law_938 : decode code 938 = .ok (.ireturn, 1) := by decide +kernel

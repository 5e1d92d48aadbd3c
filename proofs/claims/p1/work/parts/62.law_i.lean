theorem dLW_law_792 : decode code 792 = .ok (.iconst 0, 1) := by decide +kernel
theorem dLW_law_793 : decode code 793 = .ok (.ireturn, 1) := by decide +kernel
theorem dLW_law_794 : decode code 794 = .ok (.aload_n 1, 1) := by decide +kernel
theorem dLW_law_795 : decode code 795 = .ok (.invokevirtual 116, 3) := by decide +kernel
theorem dLW_law_798 : decode code 798 = .ok (.aload_n 2, 1) := by decide +kernel
theorem dLW_law_799 : decode code 799 = .ok (.invokevirtual 119, 3) := by decide +kernel
theorem dLW_law_802 : decode code 802 = .ok (.if_icmp .eq 129, 3) := by decide +kernel
theorem dLW_law_805 : decode code 805 = .ok (.iconst 0, 1) := by decide +kernel
theorem dLW_law_806 : decode code 806 = .ok (.ireturn, 1) := by decide +kernel
theorem dLW_law_807 : decode code 807 = .ok (.aload_n 1, 1) := by decide +kernel
theorem dLW_law_808 : decode code 808 = .ok (.aload_n 0, 1) := by decide +kernel
theorem dLW_law_809 : decode code 809 = .ok (.iload 4, 2) := by decide +kernel
theorem dLW_law_811 : decode code 811 = .ok (.iconst 1, 1) := by decide +kernel
theorem dLW_law_812 : decode code 812 = .ok (.iadd, 1) := by decide +kernel
theorem dLW_law_813 : decode code 813 = .ok (.iaload, 1) := by decide +kernel
theorem dLW_law_814 : decode code 814 = .ok (.aload_n 0, 1) := by decide +kernel
theorem dLW_law_815 : decode code 815 = .ok (.iload 4, 2) := by decide +kernel
theorem dLW_law_817 : decode code 817 = .ok (.iconst 2, 1) := by decide +kernel
theorem dLW_law_818 : decode code 818 = .ok (.iadd, 1) := by decide +kernel
theorem dLW_law_819 : decode code 819 = .ok (.iaload, 1) := by decide +kernel
theorem dLW_law_820 : decode code 820 = .ok (.aload_n 3, 1) := by decide +kernel
theorem dLW_law_821 : decode code 821 = .ok (.invokestatic 120, 3) := by decide +kernel
theorem dLW_law_824 : decode code 824 = .ok (.istore 5, 2) := by decide +kernel
theorem dLW_law_826 : decode code 826 = .ok (.aload_n 2, 1) := by decide +kernel
theorem dLW_law_827 : decode code 827 = .ok (.aload_n 0, 1) := by decide +kernel
theorem dLW_law_828 : decode code 828 = .ok (.iload 4, 2) := by decide +kernel
theorem dLW_law_830 : decode code 830 = .ok (.iconst 1, 1) := by decide +kernel
theorem dLW_law_831 : decode code 831 = .ok (.iadd, 1) := by decide +kernel
theorem dLW_law_832 : decode code 832 = .ok (.iaload, 1) := by decide +kernel
theorem dLW_law_833 : decode code 833 = .ok (.aload_n 0, 1) := by decide +kernel
theorem dLW_law_834 : decode code 834 = .ok (.iload 4, 2) := by decide +kernel
theorem dLW_law_836 : decode code 836 = .ok (.iconst 2, 1) := by decide +kernel
theorem dLW_law_837 : decode code 837 = .ok (.iadd, 1) := by decide +kernel
theorem dLW_law_838 : decode code 838 = .ok (.iaload, 1) := by decide +kernel
theorem dLW_law_839 : decode code 839 = .ok (.invokevirtual 122, 3) := by decide +kernel
theorem dLW_law_842 : decode code 842 = .ok (.istore 6, 2) := by decide +kernel
theorem dLW_law_844 : decode code 844 = .ok (.aload_n 2, 1) := by decide +kernel
theorem dLW_law_845 : decode code 845 = .ok (.invokevirtual 68, 3) := by decide +kernel
theorem dLW_law_848 : decode code 848 = .ok (.iload 5, 2) := by decide +kernel
theorem dLW_law_850 : decode code 850 = .ok (.if_icmp .eq 5, 3) := by decide +kernel
theorem dLW_law_853 : decode code 853 = .ok (.iconst 0, 1) := by decide +kernel
theorem dLW_law_854 : decode code 854 = .ok (.ireturn, 1) := by decide +kernel
theorem dLW_law_855 : decode code 855 = .ok (.iload 5, 2) := by decide +kernel
theorem dLW_law_857 : decode code 857 = .ok (.ifCond .ne 15, 3) := by decide +kernel
theorem dLW_law_860 : decode code 860 = .ok (.aload_n 3, 1) := by decide +kernel
theorem dLW_law_861 : decode code 861 = .ok (.iconst 0, 1) := by decide +kernel
theorem dLW_law_862 : decode code 862 = .ok (.laload, 1) := by decide +kernel
theorem dLW_law_863 : decode code 863 = .ok (.iload 6, 2) := by decide +kernel
theorem dLW_law_865 : decode code 865 = .ok (.i2l, 1) := by decide +kernel
theorem dLW_law_866 : decode code 866 = .ok (.lcmp, 1) := by decide +kernel
theorem dLW_law_867 : decode code 867 = .ok (.ifCond .eq 5, 3) := by decide +kernel
theorem dLW_law_870 : decode code 870 = .ok (.iconst 0, 1) := by decide +kernel
theorem dLW_law_871 : decode code 871 = .ok (.ireturn, 1) := by decide +kernel
theorem dLW_law_872 : decode code 872 = .ok (.goto 59, 3) := by decide +kernel
theorem dLW_law_875 : decode code 875 = .ok (.aload_n 1, 1) := by decide +kernel
theorem dLW_law_876 : decode code 876 = .ok (.aload_n 0, 1) := by decide +kernel
theorem dLW_law_877 : decode code 877 = .ok (.iload 4, 2) := by decide +kernel
theorem dLW_law_879 : decode code 879 = .ok (.iconst 1, 1) := by decide +kernel
theorem dLW_law_880 : decode code 880 = .ok (.iadd, 1) := by decide +kernel
theorem dLW_law_881 : decode code 881 = .ok (.iaload, 1) := by decide +kernel

theorem dLW_law_0 : decode code 0 = .ok (.new 8, 3) := by decide +kernel
theorem dLW_law_3 : decode code 3 = .ok (.dup, 1) := by decide +kernel
theorem dLW_law_4 : decode code 4 = .ok (.aload_n 0, 1) := by decide +kernel
theorem dLW_law_5 : decode code 5 = .ok (.iconst 0, 1) := by decide +kernel
theorem dLW_law_6 : decode code 6 = .ok (.invokestatic 47, 3) := by decide +kernel
theorem dLW_law_9 : decode code 9 = .ok (.aload_n 0, 1) := by decide +kernel
theorem dLW_law_10 : decode code 10 = .ok (.iconst 1, 1) := by decide +kernel
theorem dLW_law_11 : decode code 11 = .ok (.invokestatic 47, 3) := by decide +kernel
theorem dLW_law_14 : decode code 14 = .ok (.invokespecial 53, 3) := by decide +kernel
theorem dLW_law_17 : decode code 17 = .ok (.astore_n 1, 1) := by decide +kernel
theorem dLW_law_18 : decode code 18 = .ok (.new 56, 3) := by decide +kernel
theorem dLW_law_21 : decode code 21 = .ok (.dup, 1) := by decide +kernel
theorem dLW_law_22 : decode code 22 = .ok (.aload_n 0, 1) := by decide +kernel
theorem dLW_law_23 : decode code 23 = .ok (.iconst 0, 1) := by decide +kernel
theorem dLW_law_24 : decode code 24 = .ok (.invokestatic 47, 3) := by decide +kernel
theorem dLW_law_27 : decode code 27 = .ok (.aload_n 0, 1) := by decide +kernel
theorem dLW_law_28 : decode code 28 = .ok (.iconst 1, 1) := by decide +kernel
theorem dLW_law_29 : decode code 29 = .ok (.invokestatic 47, 3) := by decide +kernel
theorem dLW_law_32 : decode code 32 = .ok (.invokespecial 58, 3) := by decide +kernel
theorem dLW_law_35 : decode code 35 = .ok (.astore_n 2, 1) := by decide +kernel
theorem dLW_law_36 : decode code 36 = .ok (.iconst 1, 1) := by decide +kernel
theorem dLW_law_37 : decode code 37 = .ok (.newarray .long, 2) := by decide +kernel
theorem dLW_law_39 : decode code 39 = .ok (.astore_n 3, 1) := by decide +kernel
theorem dLW_law_40 : decode code 40 = .ok (.iconst 2, 1) := by decide +kernel
theorem dLW_law_41 : decode code 41 = .ok (.istore 4, 2) := by decide +kernel
theorem dLW_law_43 : decode code 43 = .ok (.iload 4, 2) := by decide +kernel
theorem dLW_law_45 : decode code 45 = .ok (.aload_n 0, 1) := by decide +kernel
theorem dLW_law_46 : decode code 46 = .ok (.arraylength, 1) := by decide +kernel
theorem dLW_law_47 : decode code 47 = .ok (.bipush 6, 2) := by decide +kernel
theorem dLW_law_49 : decode code 49 = .ok (.isub, 1) := by decide +kernel
theorem dLW_law_50 : decode code 50 = .ok (.if_icmp .gt 697, 3) := by decide +kernel
theorem dLW_law_53 : decode code 53 = .ok (.aload_n 0, 1) := by decide +kernel
theorem dLW_law_54 : decode code 54 = .ok (.iload 4, 2) := by decide +kernel
theorem dLW_law_56 : decode code 56 = .ok (.iaload, 1) := by decide +kernel
theorem dLW_law_57 : decode code 57 = .ok (.bipush 15, 2) := by decide +kernel
theorem dLW_law_59 : decode code 59 = .ok (.iand, 1) := by decide +kernel
theorem dLW_law_60 : decode code 60 = .ok (.tableswitch 681 0 15 #[80, 93, 169, 245, 294, 319, 383, 396, 409, 449, 462, 534, 547, 572, 585, 625], 80) := by decide +kernel
theorem dLW_law_140 : decode code 140 = .ok (.aload_n 1, 1) := by decide +kernel
theorem dLW_law_141 : decode code 141 = .ok (.invokevirtual 59, 3) := by decide +kernel
theorem dLW_law_144 : decode code 144 = .ok (.pop, 1) := by decide +kernel
theorem dLW_law_145 : decode code 145 = .ok (.aload_n 2, 1) := by decide +kernel
theorem dLW_law_146 : decode code 146 = .ok (.invokevirtual 63, 3) := by decide +kernel
theorem dLW_law_149 : decode code 149 = .ok (.pop, 1) := by decide +kernel
theorem dLW_law_150 : decode code 150 = .ok (.goto 591, 3) := by decide +kernel
theorem dLW_law_153 : decode code 153 = .ok (.aload_n 1, 1) := by decide +kernel
theorem dLW_law_154 : decode code 154 = .ok (.aload_n 0, 1) := by decide +kernel
theorem dLW_law_155 : decode code 155 = .ok (.iload 4, 2) := by decide +kernel
theorem dLW_law_157 : decode code 157 = .ok (.iconst 1, 1) := by decide +kernel
theorem dLW_law_158 : decode code 158 = .ok (.iadd, 1) := by decide +kernel
theorem dLW_law_159 : decode code 159 = .ok (.iaload, 1) := by decide +kernel
theorem dLW_law_160 : decode code 160 = .ok (.aload_n 0, 1) := by decide +kernel
theorem dLW_law_161 : decode code 161 = .ok (.iload 4, 2) := by decide +kernel
theorem dLW_law_163 : decode code 163 = .ok (.iconst 2, 1) := by decide +kernel
theorem dLW_law_164 : decode code 164 = .ok (.iadd, 1) := by decide +kernel
theorem dLW_law_165 : decode code 165 = .ok (.iaload, 1) := by decide +kernel
theorem dLW_law_166 : decode code 166 = .ok (.aload_n 0, 1) := by decide +kernel
theorem dLW_law_167 : decode code 167 = .ok (.iload 4, 2) := by decide +kernel
theorem dLW_law_169 : decode code 169 = .ok (.iconst 3, 1) := by decide +kernel
theorem dLW_law_170 : decode code 170 = .ok (.iadd, 1) := by decide +kernel
theorem dLW_law_171 : decode code 171 = .ok (.iaload, 1) := by decide +kernel

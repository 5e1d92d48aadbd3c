abbrev cPR_init : ByteArray := prog_1_method_1_code
abbrev yPR_init : MethodName := ⟨"PacketRows", "<init>", "(II)V"⟩
abbrev wsPR_init : List Cond := .code yPR_init cPR_init 3 (none) :: uU
theorem dPR_init_0 : decode cPR_init 0 = .ok (.aload_n 0, 1) := by decide +kernel
theorem dPR_init_1 : decode cPR_init 1 = .ok (.invokespecial 1, 3) := by decide +kernel
theorem dPR_init_4 : decode cPR_init 4 = .ok (.aload_n 0, 1) := by decide +kernel
theorem dPR_init_5 : decode cPR_init 5 = .ok (.new 7, 3) := by decide +kernel
theorem dPR_init_8 : decode cPR_init 8 = .ok (.dup, 1) := by decide +kernel
theorem dPR_init_9 : decode cPR_init 9 = .ok (.iload_n 1, 1) := by decide +kernel
theorem dPR_init_10 : decode cPR_init 10 = .ok (.iconst 1, 1) := by decide +kernel
theorem dPR_init_11 : decode cPR_init 11 = .ok (.bipush 8, 2) := by decide +kernel
theorem dPR_init_13 : decode cPR_init 13 = .ok (.invokestatic 11, 3) := by decide +kernel
theorem dPR_init_16 : decode cPR_init 16 = .ok (.iload_n 2, 1) := by decide +kernel
theorem dPR_init_17 : decode cPR_init 17 = .ok (.iconst 0, 1) := by decide +kernel
theorem dPR_init_18 : decode cPR_init 18 = .ok (.iconst 3, 1) := by decide +kernel
theorem dPR_init_19 : decode cPR_init 19 = .ok (.invokestatic 11, 3) := by decide +kernel
theorem dPR_init_22 : decode cPR_init 22 = .ok (.invokespecial 15, 3) := by decide +kernel
theorem dPR_init_25 : decode cPR_init 25 = .ok (.putfield 18, 3) := by decide +kernel
theorem dPR_init_28 : decode cPR_init 28 = .ok (.aload_n 0, 1) := by decide +kernel
theorem dPR_init_29 : decode cPR_init 29 = .ok (.new 22, 3) := by decide +kernel
theorem dPR_init_32 : decode cPR_init 32 = .ok (.dup, 1) := by decide +kernel
theorem dPR_init_33 : decode cPR_init 33 = .ok (.aload_n 0, 1) := by decide +kernel
theorem dPR_init_34 : decode cPR_init 34 = .ok (.getfield 18, 3) := by decide +kernel
theorem dPR_init_37 : decode cPR_init 37 = .ok (.invokevirtual 24, 3) := by decide +kernel
theorem dPR_init_40 : decode cPR_init 40 = .ok (.aload_n 0, 1) := by decide +kernel
theorem dPR_init_41 : decode cPR_init 41 = .ok (.getfield 18, 3) := by decide +kernel
theorem dPR_init_44 : decode cPR_init 44 = .ok (.getfield 28, 3) := by decide +kernel
theorem dPR_init_47 : decode cPR_init 47 = .ok (.invokespecial 32, 3) := by decide +kernel
theorem dPR_init_50 : decode cPR_init 50 = .ok (.putfield 33, 3) := by decide +kernel
theorem dPR_init_53 : decode cPR_init 53 = .ok (.aload_n 0, 1) := by decide +kernel
theorem dPR_init_54 : decode cPR_init 54 = .ok (.new 22, 3) := by decide +kernel
theorem dPR_init_57 : decode cPR_init 57 = .ok (.dup, 1) := by decide +kernel
theorem dPR_init_58 : decode cPR_init 58 = .ok (.aload_n 0, 1) := by decide +kernel
theorem dPR_init_59 : decode cPR_init 59 = .ok (.getfield 18, 3) := by decide +kernel
theorem dPR_init_62 : decode cPR_init 62 = .ok (.invokevirtual 24, 3) := by decide +kernel
theorem dPR_init_65 : decode cPR_init 65 = .ok (.aload_n 0, 1) := by decide +kernel
theorem dPR_init_66 : decode cPR_init 66 = .ok (.getfield 18, 3) := by decide +kernel
theorem dPR_init_69 : decode cPR_init 69 = .ok (.getfield 28, 3) := by decide +kernel
theorem dPR_init_72 : decode cPR_init 72 = .ok (.invokespecial 32, 3) := by decide +kernel
theorem dPR_init_75 : decode cPR_init 75 = .ok (.putfield 37, 3) := by decide +kernel
theorem dPR_init_78 : decode cPR_init 78 = .ok (.aload_n 0, 1) := by decide +kernel
theorem dPR_init_79 : decode cPR_init 79 = .ok (.new 40, 3) := by decide +kernel
theorem dPR_init_82 : decode cPR_init 82 = .ok (.dup, 1) := by decide +kernel
theorem dPR_init_83 : decode cPR_init 83 = .ok (.aload_n 0, 1) := by decide +kernel
theorem dPR_init_84 : decode cPR_init 84 = .ok (.getfield 18, 3) := by decide +kernel
theorem dPR_init_87 : decode cPR_init 87 = .ok (.invokespecial 42, 3) := by decide +kernel
theorem dPR_init_90 : decode cPR_init 90 = .ok (.putfield 45, 3) := by decide +kernel
theorem dPR_init_93 : decode cPR_init 93 = .ok (.aload_n 0, 1) := by decide +kernel
theorem dPR_init_94 : decode cPR_init 94 = .ok (.new 49, 3) := by decide +kernel
theorem dPR_init_97 : decode cPR_init 97 = .ok (.dup, 1) := by decide +kernel
theorem dPR_init_98 : decode cPR_init 98 = .ok (.invokespecial 51, 3) := by decide +kernel
theorem dPR_init_101 : decode cPR_init 101 = .ok (.putfield 52, 3) := by decide +kernel
theorem dPR_init_104 : decode cPR_init 104 = .ok (.aload_n 0, 1) := by decide +kernel
theorem dPR_init_105 : decode cPR_init 105 = .ok (.new 56, 3) := by decide +kernel
theorem dPR_init_108 : decode cPR_init 108 = .ok (.dup, 1) := by decide +kernel
theorem dPR_init_109 : decode cPR_init 109 = .ok (.aload_n 0, 1) := by decide +kernel
theorem dPR_init_110 : decode cPR_init 110 = .ok (.getfield 52, 3) := by decide +kernel
theorem dPR_init_113 : decode cPR_init 113 = .ok (.aload_n 0, 1) := by decide +kernel
theorem dPR_init_114 : decode cPR_init 114 = .ok (.getfield 18, 3) := by decide +kernel
theorem dPR_init_117 : decode cPR_init 117 = .ok (.invokevirtual 58, 3) := by decide +kernel
theorem dPR_init_120 : decode cPR_init 120 = .ok (.invokespecial 61, 3) := by decide +kernel
theorem dPR_init_123 : decode cPR_init 123 = .ok (.putfield 64, 3) := by decide +kernel
theorem dPR_init_126 : decode cPR_init 126 = .ok (.aload_n 0, 1) := by decide +kernel
theorem dPR_init_127 : decode cPR_init 127 = .ok (.new 68, 3) := by decide +kernel
theorem dPR_init_130 : decode cPR_init 130 = .ok (.dup, 1) := by decide +kernel
theorem dPR_init_131 : decode cPR_init 131 = .ok (.aload_n 0, 1) := by decide +kernel
theorem dPR_init_132 : decode cPR_init 132 = .ok (.getfield 52, 3) := by decide +kernel
theorem dPR_init_135 : decode cPR_init 135 = .ok (.invokespecial 70, 3) := by decide +kernel
theorem dPR_init_138 : decode cPR_init 138 = .ok (.putfield 73, 3) := by decide +kernel
theorem dPR_init_141 : decode cPR_init 141 = .ok (.aload_n 0, 1) := by decide +kernel
theorem dPR_init_142 : decode cPR_init 142 = .ok (.new 77, 3) := by decide +kernel
theorem dPR_init_145 : decode cPR_init 145 = .ok (.dup, 1) := by decide +kernel
theorem dPR_init_146 : decode cPR_init 146 = .ok (.aload_n 0, 1) := by decide +kernel
theorem dPR_init_147 : decode cPR_init 147 = .ok (.getfield 18, 3) := by decide +kernel
theorem dPR_init_150 : decode cPR_init 150 = .ok (.aload_n 0, 1) := by decide +kernel
theorem dPR_init_151 : decode cPR_init 151 = .ok (.getfield 45, 3) := by decide +kernel
theorem dPR_init_154 : decode cPR_init 154 = .ok (.invokespecial 79, 3) := by decide +kernel
theorem dPR_init_157 : decode cPR_init 157 = .ok (.putfield 82, 3) := by decide +kernel
theorem dPR_init_160 : decode cPR_init 160 = .ok (.aload_n 0, 1) := by decide +kernel
theorem dPR_init_161 : decode cPR_init 161 = .ok (.getfield 45, 3) := by decide +kernel
theorem dPR_init_164 : decode cPR_init 164 = .ok (.invokevirtual 86, 3) := by decide +kernel
theorem dPR_init_167 : decode cPR_init 167 = .ok (.return_, 1) := by decide +kernel
abbrev cPR_component : ByteArray := prog_1_method_2_code
abbrev yPR_component : MethodName := ⟨"PacketRows", "component", "()I"⟩
abbrev wsPR_component : List Cond := .code yPR_component cPR_component 2 (some .int) :: uU
theorem dPR_component_0 : decode cPR_component 0 = .ok (.aload_n 0, 1) := by decide +kernel
theorem dPR_component_1 : decode cPR_component 1 = .ok (.getfield 18, 3) := by decide +kernel
theorem dPR_component_4 : decode cPR_component 4 = .ok (.getfield 89, 3) := by decide +kernel
theorem dPR_component_7 : decode cPR_component 7 = .ok (.iconst 3, 1) := by decide +kernel
theorem dPR_component_8 : decode cPR_component 8 = .ok (.if_icmp .lt 5, 3) := by decide +kernel
theorem dPR_component_11 : decode cPR_component 11 = .ok (.iconst (-1), 1) := by decide +kernel
theorem dPR_component_12 : decode cPR_component 12 = .ok (.ireturn, 1) := by decide +kernel
theorem dPR_component_13 : decode cPR_component 13 = .ok (.aload_n 0, 1) := by decide +kernel
theorem dPR_component_14 : decode cPR_component 14 = .ok (.getfield 18, 3) := by decide +kernel
theorem dPR_component_17 : decode cPR_component 17 = .ok (.invokevirtual 92, 3) := by decide +kernel
theorem dPR_component_20 : decode cPR_component 20 = .ok (.istore_n 1, 1) := by decide +kernel
theorem dPR_component_21 : decode cPR_component 21 = .ok (.aload_n 0, 1) := by decide +kernel
theorem dPR_component_22 : decode cPR_component 22 = .ok (.getfield 18, 3) := by decide +kernel
theorem dPR_component_25 : decode cPR_component 25 = .ok (.invokevirtual 95, 3) := by decide +kernel
theorem dPR_component_28 : decode cPR_component 28 = .ok (.aload_n 0, 1) := by decide +kernel
theorem dPR_component_29 : decode cPR_component 29 = .ok (.iload_n 1, 1) := by decide +kernel
theorem dPR_component_30 : decode cPR_component 30 = .ok (.iconst 0, 1) := by decide +kernel
theorem dPR_component_31 : decode cPR_component 31 = .ok (.aload_n 0, 1) := by decide +kernel
theorem dPR_component_32 : decode cPR_component 32 = .ok (.getfield 18, 3) := by decide +kernel
theorem dPR_component_35 : decode cPR_component 35 = .ok (.invokevirtual 92, 3) := by decide +kernel
theorem dPR_component_38 : decode cPR_component 38 = .ok (.iload_n 1, 1) := by decide +kernel
theorem dPR_component_39 : decode cPR_component 39 = .ok (.isub, 1) := by decide +kernel
theorem dPR_component_40 : decode cPR_component 40 = .ok (.iload_n 1, 1) := by decide +kernel
theorem dPR_component_41 : decode cPR_component 41 = .ok (.invokevirtual 98, 3) := by decide +kernel
theorem dPR_component_44 : decode cPR_component 44 = .ok (.aload_n 0, 1) := by decide +kernel
theorem dPR_component_45 : decode cPR_component 45 = .ok (.invokevirtual 102, 3) := by decide +kernel
theorem dPR_component_48 : decode cPR_component 48 = .ok (.aload_n 0, 1) := by decide +kernel
theorem dPR_component_49 : decode cPR_component 49 = .ok (.getfield 18, 3) := by decide +kernel
theorem dPR_component_52 : decode cPR_component 52 = .ok (.getfield 89, 3) := by decide +kernel
theorem dPR_component_55 : decode cPR_component 55 = .ok (.iconst 1, 1) := by decide +kernel
theorem dPR_component_56 : decode cPR_component 56 = .ok (.isub, 1) := by decide +kernel
theorem dPR_component_57 : decode cPR_component 57 = .ok (.ireturn, 1) := by decide +kernel
abbrev cPR_grid : ByteArray := prog_1_method_3_code
abbrev yPR_grid : MethodName := ⟨"PacketRows", "grid", "(IIIII)I"⟩
abbrev wsPR_grid : List Cond := .code yPR_grid cPR_grid 10 (some .int) :: uU
theorem dPR_grid_0 : decode cPR_grid 0 = .ok (.aload_n 0, 1) := by decide +kernel
theorem dPR_grid_1 : decode cPR_grid 1 = .ok (.getfield 18, 3) := by decide +kernel
theorem dPR_grid_4 : decode cPR_grid 4 = .ok (.iload_n 1, 1) := by decide +kernel
theorem dPR_grid_5 : decode cPR_grid 5 = .ok (.iload_n 2, 1) := by decide +kernel
theorem dPR_grid_6 : decode cPR_grid 6 = .ok (.invokevirtual 105, 3) := by decide +kernel
theorem dPR_grid_9 : decode cPR_grid 9 = .ok (.istore 6, 2) := by decide +kernel
theorem dPR_grid_11 : decode cPR_grid 11 = .ok (.iload 6, 2) := by decide +kernel
theorem dPR_grid_13 : decode cPR_grid 13 = .ok (.iconst (-1), 1) := by decide +kernel
theorem dPR_grid_14 : decode cPR_grid 14 = .ok (.if_icmp .ne 13, 3) := by decide +kernel
theorem dPR_grid_17 : decode cPR_grid 17 = .ok (.new 109, 3) := by decide +kernel
theorem dPR_grid_20 : decode cPR_grid 20 = .ok (.dup, 1) := by decide +kernel
theorem dPR_grid_21 : decode cPR_grid 21 = .ok (.ldc 111, 2) := by decide +kernel
theorem dPR_grid_23 : decode cPR_grid 23 = .ok (.invokespecial 113, 3) := by decide +kernel
theorem dPR_grid_26 : decode cPR_grid 26 = .ok (.athrow, 1) := by decide +kernel
theorem dPR_grid_27 : decode cPR_grid 27 = .ok (.iload_n 3, 1) := by decide +kernel
theorem dPR_grid_28 : decode cPR_grid 28 = .ok (.iconst 1, 1) := by decide +kernel
theorem dPR_grid_29 : decode cPR_grid 29 = .ok (.iconst 4, 1) := by decide +kernel
theorem dPR_grid_30 : decode cPR_grid 30 = .ok (.invokestatic 116, 3) := by decide +kernel
theorem dPR_grid_33 : decode cPR_grid 33 = .ok (.ifCond .eq 23, 3) := by decide +kernel
theorem dPR_grid_36 : decode cPR_grid 36 = .ok (.iload 4, 2) := by decide +kernel
theorem dPR_grid_38 : decode cPR_grid 38 = .ok (.iconst 1, 1) := by decide +kernel
theorem dPR_grid_39 : decode cPR_grid 39 = .ok (.iconst 4, 1) := by decide +kernel
theorem dPR_grid_40 : decode cPR_grid 40 = .ok (.invokestatic 116, 3) := by decide +kernel
theorem dPR_grid_43 : decode cPR_grid 43 = .ok (.ifCond .eq 13, 3) := by decide +kernel
theorem dPR_grid_46 : decode cPR_grid 46 = .ok (.iload 5, 2) := by decide +kernel
theorem dPR_grid_48 : decode cPR_grid 48 = .ok (.iconst 1, 1) := by decide +kernel
theorem dPR_grid_49 : decode cPR_grid 49 = .ok (.iconst 3, 1) := by decide +kernel
theorem dPR_grid_50 : decode cPR_grid 50 = .ok (.invokestatic 116, 3) := by decide +kernel
theorem dPR_grid_53 : decode cPR_grid 53 = .ok (.ifCond .ne 13, 3) := by decide +kernel
theorem dPR_grid_56 : decode cPR_grid 56 = .ok (.new 120, 3) := by decide +kernel
theorem dPR_grid_59 : decode cPR_grid 59 = .ok (.dup, 1) := by decide +kernel
theorem dPR_grid_60 : decode cPR_grid 60 = .ok (.ldc 122, 2) := by decide +kernel
theorem dPR_grid_62 : decode cPR_grid 62 = .ok (.invokespecial 124, 3) := by decide +kernel
theorem dPR_grid_65 : decode cPR_grid 65 = .ok (.athrow, 1) := by decide +kernel
theorem dPR_grid_66 : decode cPR_grid 66 = .ok (.aload_n 0, 1) := by decide +kernel
theorem dPR_grid_67 : decode cPR_grid 67 = .ok (.getfield 18, 3) := by decide +kernel
theorem dPR_grid_70 : decode cPR_grid 70 = .ok (.invokevirtual 92, 3) := by decide +kernel
theorem dPR_grid_73 : decode cPR_grid 73 = .ok (.istore 7, 2) := by decide +kernel
theorem dPR_grid_75 : decode cPR_grid 75 = .ok (.aload_n 0, 1) := by decide +kernel
theorem dPR_grid_76 : decode cPR_grid 76 = .ok (.getfield 18, 3) := by decide +kernel
theorem dPR_grid_79 : decode cPR_grid 79 = .ok (.iload 6, 2) := by decide +kernel
theorem dPR_grid_81 : decode cPR_grid 81 = .ok (.invokevirtual 125, 3) := by decide +kernel
theorem dPR_grid_84 : decode cPR_grid 84 = .ok (.istore 8, 2) := by decide +kernel
theorem dPR_grid_86 : decode cPR_grid 86 = .ok (.iload_n 3, 1) := by decide +kernel
theorem dPR_grid_87 : decode cPR_grid 87 = .ok (.aload_n 0, 1) := by decide +kernel
theorem dPR_grid_88 : decode cPR_grid 88 = .ok (.getfield 18, 3) := by decide +kernel
theorem dPR_grid_91 : decode cPR_grid 91 = .ok (.getfield 129, 3) := by decide +kernel
theorem dPR_grid_94 : decode cPR_grid 94 = .ok (.iload 6, 2) := by decide +kernel
theorem dPR_grid_96 : decode cPR_grid 96 = .ok (.iaload, 1) := by decide +kernel
theorem dPR_grid_97 : decode cPR_grid 97 = .ok (.imul, 1) := by decide +kernel
theorem dPR_grid_98 : decode cPR_grid 98 = .ok (.iload 4, 2) := by decide +kernel
theorem dPR_grid_100 : decode cPR_grid 100 = .ok (.imul, 1) := by decide +kernel
theorem dPR_grid_101 : decode cPR_grid 101 = .ok (.iload 5, 2) := by decide +kernel
theorem dPR_grid_103 : decode cPR_grid 103 = .ok (.imul, 1) := by decide +kernel
theorem dPR_grid_104 : decode cPR_grid 104 = .ok (.istore 9, 2) := by decide +kernel
theorem dPR_grid_106 : decode cPR_grid 106 = .ok (.iload 7, 2) := by decide +kernel
theorem dPR_grid_108 : decode cPR_grid 108 = .ok (.iload 8, 2) := by decide +kernel
theorem dPR_grid_110 : decode cPR_grid 110 = .ok (.isub, 1) := by decide +kernel
theorem dPR_grid_111 : decode cPR_grid 111 = .ok (.iload 9, 2) := by decide +kernel
theorem dPR_grid_113 : decode cPR_grid 113 = .ok (.iadd, 1) := by decide +kernel
theorem dPR_grid_114 : decode cPR_grid 114 = .ok (.sipush 400, 3) := by decide +kernel
theorem dPR_grid_117 : decode cPR_grid 117 = .ok (.if_icmp .le 5, 3) := by decide +kernel
theorem dPR_grid_120 : decode cPR_grid 120 = .ok (.iconst (-1), 1) := by decide +kernel
theorem dPR_grid_121 : decode cPR_grid 121 = .ok (.ireturn, 1) := by decide +kernel
theorem dPR_grid_122 : decode cPR_grid 122 = .ok (.aload_n 0, 1) := by decide +kernel
theorem dPR_grid_123 : decode cPR_grid 123 = .ok (.aload_n 0, 1) := by decide +kernel
theorem dPR_grid_124 : decode cPR_grid 124 = .ok (.getfield 18, 3) := by decide +kernel
theorem dPR_grid_127 : decode cPR_grid 127 = .ok (.getfield 133, 3) := by decide +kernel
theorem dPR_grid_130 : decode cPR_grid 130 = .ok (.iload 6, 2) := by decide +kernel
theorem dPR_grid_132 : decode cPR_grid 132 = .ok (.iaload, 1) := by decide +kernel
theorem dPR_grid_133 : decode cPR_grid 133 = .ok (.iload 8, 2) := by decide +kernel
theorem dPR_grid_135 : decode cPR_grid 135 = .ok (.iload 9, 2) := by decide +kernel
theorem dPR_grid_137 : decode cPR_grid 137 = .ok (.iload 7, 2) := by decide +kernel
theorem dPR_grid_139 : decode cPR_grid 139 = .ok (.invokevirtual 98, 3) := by decide +kernel
theorem dPR_grid_142 : decode cPR_grid 142 = .ok (.aload_n 0, 1) := by decide +kernel
theorem dPR_grid_143 : decode cPR_grid 143 = .ok (.getfield 18, 3) := by decide +kernel
theorem dPR_grid_146 : decode cPR_grid 146 = .ok (.iload 6, 2) := by decide +kernel
theorem dPR_grid_148 : decode cPR_grid 148 = .ok (.iload_n 3, 1) := by decide +kernel
theorem dPR_grid_149 : decode cPR_grid 149 = .ok (.iload 4, 2) := by decide +kernel
theorem dPR_grid_151 : decode cPR_grid 151 = .ok (.iload 5, 2) := by decide +kernel
theorem dPR_grid_153 : decode cPR_grid 153 = .ok (.invokevirtual 136, 3) := by decide +kernel
theorem dPR_grid_156 : decode cPR_grid 156 = .ok (.aload_n 0, 1) := by decide +kernel
theorem dPR_grid_157 : decode cPR_grid 157 = .ok (.getfield 139, 3) := by decide +kernel
theorem dPR_grid_160 : decode cPR_grid 160 = .ok (.iload 6, 2) := by decide +kernel
theorem dPR_grid_162 : decode cPR_grid 162 = .ok (.if_icmp .ne 8, 3) := by decide +kernel
theorem dPR_grid_165 : decode cPR_grid 165 = .ok (.aload_n 0, 1) := by decide +kernel
theorem dPR_grid_166 : decode cPR_grid 166 = .ok (.iconst 0, 1) := by decide +kernel
theorem dPR_grid_167 : decode cPR_grid 167 = .ok (.putfield 142, 3) := by decide +kernel
theorem dPR_grid_170 : decode cPR_grid 170 = .ok (.aload_n 0, 1) := by decide +kernel
theorem dPR_grid_171 : decode cPR_grid 171 = .ok (.invokevirtual 102, 3) := by decide +kernel
theorem dPR_grid_174 : decode cPR_grid 174 = .ok (.iconst 1, 1) := by decide +kernel
theorem dPR_grid_175 : decode cPR_grid 175 = .ok (.ireturn, 1) := by decide +kernel
abbrev cPR_choose : ByteArray := prog_1_method_4_code
abbrev yPR_choose : MethodName := ⟨"PacketRows", "choose", "(IIIII)I"⟩
abbrev wsPR_choose : List Cond := .code yPR_choose cPR_choose 7 (some .int) :: uU
theorem dPR_choose_0 : decode cPR_choose 0 = .ok (.aload_n 0, 1) := by decide +kernel
theorem dPR_choose_1 : decode cPR_choose 1 = .ok (.getfield 18, 3) := by decide +kernel
theorem dPR_choose_4 : decode cPR_choose 4 = .ok (.iload_n 1, 1) := by decide +kernel
theorem dPR_choose_5 : decode cPR_choose 5 = .ok (.iload_n 2, 1) := by decide +kernel
theorem dPR_choose_6 : decode cPR_choose 6 = .ok (.invokevirtual 105, 3) := by decide +kernel
theorem dPR_choose_9 : decode cPR_choose 9 = .ok (.istore 6, 2) := by decide +kernel
theorem dPR_choose_11 : decode cPR_choose 11 = .ok (.iload 6, 2) := by decide +kernel
theorem dPR_choose_13 : decode cPR_choose 13 = .ok (.iconst (-1), 1) := by decide +kernel
theorem dPR_choose_14 : decode cPR_choose 14 = .ok (.if_icmp .eq 20, 3) := by decide +kernel
theorem dPR_choose_17 : decode cPR_choose 17 = .ok (.aload_n 0, 1) := by decide +kernel
theorem dPR_choose_18 : decode cPR_choose 18 = .ok (.getfield 18, 3) := by decide +kernel
theorem dPR_choose_21 : decode cPR_choose 21 = .ok (.iload 6, 2) := by decide +kernel
theorem dPR_choose_23 : decode cPR_choose 23 = .ok (.iload_n 3, 1) := by decide +kernel
theorem dPR_choose_24 : decode cPR_choose 24 = .ok (.iload 4, 2) := by decide +kernel
theorem dPR_choose_26 : decode cPR_choose 26 = .ok (.iload 5, 2) := by decide +kernel
theorem dPR_choose_28 : decode cPR_choose 28 = .ok (.invokevirtual 145, 3) := by decide +kernel
theorem dPR_choose_31 : decode cPR_choose 31 = .ok (.ifCond .ne 13, 3) := by decide +kernel
theorem dPR_choose_34 : decode cPR_choose 34 = .ok (.new 109, 3) := by decide +kernel
theorem dPR_choose_37 : decode cPR_choose 37 = .ok (.dup, 1) := by decide +kernel
theorem dPR_choose_38 : decode cPR_choose 38 = .ok (.ldc 149, 2) := by decide +kernel
theorem dPR_choose_40 : decode cPR_choose 40 = .ok (.invokespecial 113, 3) := by decide +kernel
theorem dPR_choose_43 : decode cPR_choose 43 = .ok (.athrow, 1) := by decide +kernel
theorem dPR_choose_44 : decode cPR_choose 44 = .ok (.aload_n 0, 1) := by decide +kernel
theorem dPR_choose_45 : decode cPR_choose 45 = .ok (.iload 6, 2) := by decide +kernel
theorem dPR_choose_47 : decode cPR_choose 47 = .ok (.putfield 139, 3) := by decide +kernel
theorem dPR_choose_50 : decode cPR_choose 50 = .ok (.aload_n 0, 1) := by decide +kernel
theorem dPR_choose_51 : decode cPR_choose 51 = .ok (.iload_n 3, 1) := by decide +kernel
theorem dPR_choose_52 : decode cPR_choose 52 = .ok (.aload_n 0, 1) := by decide +kernel
theorem dPR_choose_53 : decode cPR_choose 53 = .ok (.getfield 18, 3) := by decide +kernel
theorem dPR_choose_56 : decode cPR_choose 56 = .ok (.getfield 129, 3) := by decide +kernel
theorem dPR_choose_59 : decode cPR_choose 59 = .ok (.iload 6, 2) := by decide +kernel
theorem dPR_choose_61 : decode cPR_choose 61 = .ok (.iaload, 1) := by decide +kernel
theorem dPR_choose_62 : decode cPR_choose 62 = .ok (.imul, 1) := by decide +kernel
theorem dPR_choose_63 : decode cPR_choose 63 = .ok (.iload 4, 2) := by decide +kernel
theorem dPR_choose_65 : decode cPR_choose 65 = .ok (.iadd, 1) := by decide +kernel
theorem dPR_choose_66 : decode cPR_choose 66 = .ok (.aload_n 0, 1) := by decide +kernel
theorem dPR_choose_67 : decode cPR_choose 67 = .ok (.getfield 18, 3) := by decide +kernel
theorem dPR_choose_70 : decode cPR_choose 70 = .ok (.iload 6, 2) := by decide +kernel
theorem dPR_choose_72 : decode cPR_choose 72 = .ok (.invokevirtual 151, 3) := by decide +kernel
theorem dPR_choose_75 : decode cPR_choose 75 = .ok (.imul, 1) := by decide +kernel
theorem dPR_choose_76 : decode cPR_choose 76 = .ok (.iload 5, 2) := by decide +kernel
theorem dPR_choose_78 : decode cPR_choose 78 = .ok (.iadd, 1) := by decide +kernel
theorem dPR_choose_79 : decode cPR_choose 79 = .ok (.putfield 142, 3) := by decide +kernel
theorem dPR_choose_82 : decode cPR_choose 82 = .ok (.aload_n 0, 1) := by decide +kernel
theorem dPR_choose_83 : decode cPR_choose 83 = .ok (.invokevirtual 154, 3) := by decide +kernel
theorem dPR_choose_86 : decode cPR_choose 86 = .ok (.ireturn, 1) := by decide +kernel
abbrev cPR_passes : ByteArray := prog_1_method_5_code
abbrev yPR_passes : MethodName := ⟨"PacketRows", "passes", "(III)V"⟩
abbrev wsPR_passes : List Cond := .code yPR_passes cPR_passes 4 (none) :: uU
theorem dPR_passes_0 : decode cPR_passes 0 = .ok (.iload_n 1, 1) := by decide +kernel
theorem dPR_passes_1 : decode cPR_passes 1 = .ok (.iconst 0, 1) := by decide +kernel
theorem dPR_passes_2 : decode cPR_passes 2 = .ok (.aload_n 0, 1) := by decide +kernel
theorem dPR_passes_3 : decode cPR_passes 3 = .ok (.getfield 18, 3) := by decide +kernel
theorem dPR_passes_6 : decode cPR_passes 6 = .ok (.getfield 28, 3) := by decide +kernel
theorem dPR_passes_9 : decode cPR_passes 9 = .ok (.iconst 1, 1) := by decide +kernel
theorem dPR_passes_10 : decode cPR_passes 10 = .ok (.isub, 1) := by decide +kernel
theorem dPR_passes_11 : decode cPR_passes 11 = .ok (.invokestatic 116, 3) := by decide +kernel
theorem dPR_passes_14 : decode cPR_passes 14 = .ok (.ifCond .ne 13, 3) := by decide +kernel
theorem dPR_passes_17 : decode cPR_passes 17 = .ok (.new 109, 3) := by decide +kernel
theorem dPR_passes_20 : decode cPR_passes 20 = .ok (.dup, 1) := by decide +kernel
theorem dPR_passes_21 : decode cPR_passes 21 = .ok (.ldc 157, 2) := by decide +kernel
theorem dPR_passes_23 : decode cPR_passes 23 = .ok (.invokespecial 113, 3) := by decide +kernel
theorem dPR_passes_26 : decode cPR_passes 26 = .ok (.athrow, 1) := by decide +kernel
theorem dPR_passes_27 : decode cPR_passes 27 = .ok (.iload_n 2, 1) := by decide +kernel
theorem dPR_passes_28 : decode cPR_passes 28 = .ok (.iconst 0, 1) := by decide +kernel
theorem dPR_passes_29 : decode cPR_passes 29 = .ok (.sipush 164, 3) := by decide +kernel
theorem dPR_passes_32 : decode cPR_passes 32 = .ok (.invokestatic 116, 3) := by decide +kernel
theorem dPR_passes_35 : decode cPR_passes 35 = .ok (.ifCond .eq 13, 3) := by decide +kernel
theorem dPR_passes_38 : decode cPR_passes 38 = .ok (.iload_n 3, 1) := by decide +kernel
theorem dPR_passes_39 : decode cPR_passes 39 = .ok (.iconst 0, 1) := by decide +kernel
theorem dPR_passes_40 : decode cPR_passes 40 = .ok (.ldc 159, 2) := by decide +kernel
theorem dPR_passes_42 : decode cPR_passes 42 = .ok (.invokestatic 116, 3) := by decide +kernel
theorem dPR_passes_45 : decode cPR_passes 45 = .ok (.ifCond .ne 13, 3) := by decide +kernel
theorem dPR_passes_48 : decode cPR_passes 48 = .ok (.new 120, 3) := by decide +kernel
theorem dPR_passes_51 : decode cPR_passes 51 = .ok (.dup, 1) := by decide +kernel
theorem dPR_passes_52 : decode cPR_passes 52 = .ok (.ldc 160, 2) := by decide +kernel
theorem dPR_passes_54 : decode cPR_passes 54 = .ok (.invokespecial 124, 3) := by decide +kernel
theorem dPR_passes_57 : decode cPR_passes 57 = .ok (.athrow, 1) := by decide +kernel
theorem dPR_passes_58 : decode cPR_passes 58 = .ok (.aload_n 0, 1) := by decide +kernel
theorem dPR_passes_59 : decode cPR_passes 59 = .ok (.getfield 33, 3) := by decide +kernel
theorem dPR_passes_62 : decode cPR_passes 62 = .ok (.aload_n 0, 1) := by decide +kernel
theorem dPR_passes_63 : decode cPR_passes 63 = .ok (.invokevirtual 154, 3) := by decide +kernel
theorem dPR_passes_66 : decode cPR_passes 66 = .ok (.iload_n 1, 1) := by decide +kernel
theorem dPR_passes_67 : decode cPR_passes 67 = .ok (.iload_n 2, 1) := by decide +kernel
theorem dPR_passes_68 : decode cPR_passes 68 = .ok (.iload_n 2, 1) := by decide +kernel
theorem dPR_passes_69 : decode cPR_passes 69 = .ok (.ifCond .ne 7, 3) := by decide +kernel
theorem dPR_passes_72 : decode cPR_passes 72 = .ok (.iconst 0, 1) := by decide +kernel
theorem dPR_passes_73 : decode cPR_passes 73 = .ok (.goto 4, 3) := by decide +kernel
theorem dPR_passes_76 : decode cPR_passes 76 = .ok (.iload_n 3, 1) := by decide +kernel
theorem dPR_passes_77 : decode cPR_passes 77 = .ok (.invokevirtual 162, 3) := by decide +kernel
theorem dPR_passes_80 : decode cPR_passes 80 = .ok (.aload_n 0, 1) := by decide +kernel
theorem dPR_passes_81 : decode cPR_passes 81 = .ok (.iconst 0, 1) := by decide +kernel
theorem dPR_passes_82 : decode cPR_passes 82 = .ok (.putfield 165, 3) := by decide +kernel
theorem dPR_passes_85 : decode cPR_passes 85 = .ok (.return_, 1) := by decide +kernel
abbrev cPR_zero : ByteArray := prog_1_method_6_code
abbrev yPR_zero : MethodName := ⟨"PacketRows", "zero", "(I)V"⟩
abbrev wsPR_zero : List Cond := .code yPR_zero cPR_zero 2 (none) :: uU
theorem dPR_zero_0 : decode cPR_zero 0 = .ok (.iload_n 1, 1) := by decide +kernel
theorem dPR_zero_1 : decode cPR_zero 1 = .ok (.iconst 0, 1) := by decide +kernel
theorem dPR_zero_2 : decode cPR_zero 2 = .ok (.bipush 30, 2) := by decide +kernel
theorem dPR_zero_4 : decode cPR_zero 4 = .ok (.invokestatic 116, 3) := by decide +kernel
theorem dPR_zero_7 : decode cPR_zero 7 = .ok (.ifCond .ne 13, 3) := by decide +kernel
theorem dPR_zero_10 : decode cPR_zero 10 = .ok (.new 120, 3) := by decide +kernel
theorem dPR_zero_13 : decode cPR_zero 13 = .ok (.dup, 1) := by decide +kernel
theorem dPR_zero_14 : decode cPR_zero 14 = .ok (.ldc 169, 2) := by decide +kernel
theorem dPR_zero_16 : decode cPR_zero 16 = .ok (.invokespecial 124, 3) := by decide +kernel
theorem dPR_zero_19 : decode cPR_zero 19 = .ok (.athrow, 1) := by decide +kernel
theorem dPR_zero_20 : decode cPR_zero 20 = .ok (.aload_n 0, 1) := by decide +kernel
theorem dPR_zero_21 : decode cPR_zero 21 = .ok (.getfield 33, 3) := by decide +kernel
theorem dPR_zero_24 : decode cPR_zero 24 = .ok (.getfield 171, 3) := by decide +kernel
theorem dPR_zero_27 : decode cPR_zero 27 = .ok (.aload_n 0, 1) := by decide +kernel
theorem dPR_zero_28 : decode cPR_zero 28 = .ok (.invokevirtual 154, 3) := by decide +kernel
theorem dPR_zero_31 : decode cPR_zero 31 = .ok (.iload_n 1, 1) := by decide +kernel
theorem dPR_zero_32 : decode cPR_zero 32 = .ok (.iastore, 1) := by decide +kernel
theorem dPR_zero_33 : decode cPR_zero 33 = .ok (.aload_n 0, 1) := by decide +kernel
theorem dPR_zero_34 : decode cPR_zero 34 = .ok (.iconst 0, 1) := by decide +kernel
theorem dPR_zero_35 : decode cPR_zero 35 = .ok (.putfield 165, 3) := by decide +kernel
theorem dPR_zero_38 : decode cPR_zero 38 = .ok (.return_, 1) := by decide +kernel
abbrev cPR_part : ByteArray := prog_1_method_7_code
abbrev yPR_part : MethodName := ⟨"PacketRows", "part", "(IIII)I"⟩
abbrev wsPR_part : List Cond := .code yPR_part cPR_part 5 (some .int) :: uU
theorem dPR_part_0 : decode cPR_part 0 = .ok (.iload_n 1, 1) := by decide +kernel
theorem dPR_part_1 : decode cPR_part 1 = .ok (.iconst 0, 1) := by decide +kernel
theorem dPR_part_2 : decode cPR_part 2 = .ok (.iconst 4, 1) := by decide +kernel
theorem dPR_part_3 : decode cPR_part 3 = .ok (.invokestatic 116, 3) := by decide +kernel
theorem dPR_part_6 : decode cPR_part 6 = .ok (.ifCond .eq 32, 3) := by decide +kernel
theorem dPR_part_9 : decode cPR_part 9 = .ok (.iload_n 2, 1) := by decide +kernel
theorem dPR_part_10 : decode cPR_part 10 = .ok (.iconst 1, 1) := by decide +kernel
theorem dPR_part_11 : decode cPR_part 11 = .ok (.bipush 8, 2) := by decide +kernel
theorem dPR_part_13 : decode cPR_part 13 = .ok (.invokestatic 116, 3) := by decide +kernel
theorem dPR_part_16 : decode cPR_part 16 = .ok (.ifCond .eq 22, 3) := by decide +kernel
theorem dPR_part_19 : decode cPR_part 19 = .ok (.iload_n 3, 1) := by decide +kernel
theorem dPR_part_20 : decode cPR_part 20 = .ok (.iconst 1, 1) := by decide +kernel
theorem dPR_part_21 : decode cPR_part 21 = .ok (.iconst 4, 1) := by decide +kernel
theorem dPR_part_22 : decode cPR_part 22 = .ok (.invokestatic 116, 3) := by decide +kernel
theorem dPR_part_25 : decode cPR_part 25 = .ok (.ifCond .eq 13, 3) := by decide +kernel
theorem dPR_part_28 : decode cPR_part 28 = .ok (.iload 4, 2) := by decide +kernel
theorem dPR_part_30 : decode cPR_part 30 = .ok (.iconst 1, 1) := by decide +kernel
theorem dPR_part_31 : decode cPR_part 31 = .ok (.iconst 3, 1) := by decide +kernel
theorem dPR_part_32 : decode cPR_part 32 = .ok (.invokestatic 116, 3) := by decide +kernel
theorem dPR_part_35 : decode cPR_part 35 = .ok (.ifCond .ne 13, 3) := by decide +kernel
theorem dPR_part_38 : decode cPR_part 38 = .ok (.new 120, 3) := by decide +kernel
theorem dPR_part_41 : decode cPR_part 41 = .ok (.dup, 1) := by decide +kernel
theorem dPR_part_42 : decode cPR_part 42 = .ok (.ldc 174, 2) := by decide +kernel
theorem dPR_part_44 : decode cPR_part 44 = .ok (.invokespecial 124, 3) := by decide +kernel
theorem dPR_part_47 : decode cPR_part 47 = .ok (.athrow, 1) := by decide +kernel
theorem dPR_part_48 : decode cPR_part 48 = .ok (.aload_n 0, 1) := by decide +kernel
theorem dPR_part_49 : decode cPR_part 49 = .ok (.getfield 45, 3) := by decide +kernel
theorem dPR_part_52 : decode cPR_part 52 = .ok (.getfield 176, 3) := by decide +kernel
theorem dPR_part_55 : decode cPR_part 55 = .ok (.bipush 6, 2) := by decide +kernel
theorem dPR_part_57 : decode cPR_part 57 = .ok (.if_icmp .lt 5, 3) := by decide +kernel
theorem dPR_part_60 : decode cPR_part 60 = .ok (.iconst (-1), 1) := by decide +kernel
theorem dPR_part_61 : decode cPR_part 61 = .ok (.ireturn, 1) := by decide +kernel
theorem dPR_part_62 : decode cPR_part 62 = .ok (.aload_n 0, 1) := by decide +kernel
theorem dPR_part_63 : decode cPR_part 63 = .ok (.getfield 45, 3) := by decide +kernel
theorem dPR_part_66 : decode cPR_part 66 = .ok (.iload_n 1, 1) := by decide +kernel
theorem dPR_part_67 : decode cPR_part 67 = .ok (.iload_n 2, 1) := by decide +kernel
theorem dPR_part_68 : decode cPR_part 68 = .ok (.iload_n 3, 1) := by decide +kernel
theorem dPR_part_69 : decode cPR_part 69 = .ok (.iload 4, 2) := by decide +kernel
theorem dPR_part_71 : decode cPR_part 71 = .ok (.invokevirtual 179, 3) := by decide +kernel
theorem dPR_part_74 : decode cPR_part 74 = .ok (.aload_n 0, 1) := by decide +kernel
theorem dPR_part_75 : decode cPR_part 75 = .ok (.invokevirtual 102, 3) := by decide +kernel
theorem dPR_part_78 : decode cPR_part 78 = .ok (.aload_n 0, 1) := by decide +kernel
theorem dPR_part_79 : decode cPR_part 79 = .ok (.getfield 45, 3) := by decide +kernel
theorem dPR_part_82 : decode cPR_part 82 = .ok (.getfield 176, 3) := by decide +kernel
theorem dPR_part_85 : decode cPR_part 85 = .ok (.ireturn, 1) := by decide +kernel
abbrev cPR_whole : ByteArray := prog_1_method_8_code
abbrev yPR_whole : MethodName := ⟨"PacketRows", "whole", "()I"⟩
abbrev wsPR_whole : List Cond := .code yPR_whole cPR_whole 2 (some .int) :: uU
theorem dPR_whole_0 : decode cPR_whole 0 = .ok (.aload_n 0, 1) := by decide +kernel
theorem dPR_whole_1 : decode cPR_whole 1 = .ok (.getfield 45, 3) := by decide +kernel
theorem dPR_whole_4 : decode cPR_whole 4 = .ok (.getfield 176, 3) := by decide +kernel
theorem dPR_whole_7 : decode cPR_whole 7 = .ok (.istore_n 1, 1) := by decide +kernel
theorem dPR_whole_8 : decode cPR_whole 8 = .ok (.aload_n 0, 1) := by decide +kernel
theorem dPR_whole_9 : decode cPR_whole 9 = .ok (.getfield 45, 3) := by decide +kernel
theorem dPR_whole_12 : decode cPR_whole 12 = .ok (.iconst 0, 1) := by decide +kernel
theorem dPR_whole_13 : decode cPR_whole 13 = .ok (.putfield 176, 3) := by decide +kernel
theorem dPR_whole_16 : decode cPR_whole 16 = .ok (.aload_n 0, 1) := by decide +kernel
theorem dPR_whole_17 : decode cPR_whole 17 = .ok (.invokevirtual 102, 3) := by decide +kernel
theorem dPR_whole_20 : decode cPR_whole 20 = .ok (.iload_n 1, 1) := by decide +kernel
theorem dPR_whole_21 : decode cPR_whole 21 = .ok (.ireturn, 1) := by decide +kernel
abbrev cPR_packets : ByteArray := prog_1_method_9_code
abbrev yPR_packets : MethodName := ⟨"PacketRows", "packets", "()I"⟩
abbrev wsPR_packets : List Cond := .code yPR_packets cPR_packets 1 (some .int) :: uU
theorem dPR_packets_0 : decode cPR_packets 0 = .ok (.aload_n 0, 1) := by decide +kernel
theorem dPR_packets_1 : decode cPR_packets 1 = .ok (.getfield 45, 3) := by decide +kernel
theorem dPR_packets_4 : decode cPR_packets 4 = .ok (.getfield 182, 3) := by decide +kernel
theorem dPR_packets_7 : decode cPR_packets 7 = .ok (.ireturn, 1) := by decide +kernel
abbrev cPR_packet : ByteArray := prog_1_method_10_code
abbrev yPR_packet : MethodName := ⟨"PacketRows", "packet", "(II)I"⟩
abbrev wsPR_packet : List Cond := .code yPR_packet cPR_packet 3 (some .int) :: uU
theorem dPR_packet_0 : decode cPR_packet 0 = .ok (.iload_n 1, 1) := by decide +kernel
theorem dPR_packet_1 : decode cPR_packet 1 = .ok (.iconst 0, 1) := by decide +kernel
theorem dPR_packet_2 : decode cPR_packet 2 = .ok (.aload_n 0, 1) := by decide +kernel
theorem dPR_packet_3 : decode cPR_packet 3 = .ok (.getfield 45, 3) := by decide +kernel
theorem dPR_packet_6 : decode cPR_packet 6 = .ok (.getfield 182, 3) := by decide +kernel
theorem dPR_packet_9 : decode cPR_packet 9 = .ok (.iconst 1, 1) := by decide +kernel
theorem dPR_packet_10 : decode cPR_packet 10 = .ok (.isub, 1) := by decide +kernel
theorem dPR_packet_11 : decode cPR_packet 11 = .ok (.invokestatic 116, 3) := by decide +kernel
theorem dPR_packet_14 : decode cPR_packet 14 = .ok (.ifCond .eq 12, 3) := by decide +kernel
theorem dPR_packet_17 : decode cPR_packet 17 = .ok (.iload_n 2, 1) := by decide +kernel
theorem dPR_packet_18 : decode cPR_packet 18 = .ok (.iconst 0, 1) := by decide +kernel
theorem dPR_packet_19 : decode cPR_packet 19 = .ok (.iconst 4, 1) := by decide +kernel
theorem dPR_packet_20 : decode cPR_packet 20 = .ok (.invokestatic 116, 3) := by decide +kernel
theorem dPR_packet_23 : decode cPR_packet 23 = .ok (.ifCond .ne 13, 3) := by decide +kernel
theorem dPR_packet_26 : decode cPR_packet 26 = .ok (.new 109, 3) := by decide +kernel
theorem dPR_packet_29 : decode cPR_packet 29 = .ok (.dup, 1) := by decide +kernel
theorem dPR_packet_30 : decode cPR_packet 30 = .ok (.ldc 185, 2) := by decide +kernel
theorem dPR_packet_32 : decode cPR_packet 32 = .ok (.invokespecial 113, 3) := by decide +kernel
theorem dPR_packet_35 : decode cPR_packet 35 = .ok (.athrow, 1) := by decide +kernel
theorem dPR_packet_36 : decode cPR_packet 36 = .ok (.iload_n 2, 1) := by decide +kernel
theorem dPR_packet_37 : decode cPR_packet 37 = .ok (.iconst 4, 1) := by decide +kernel
theorem dPR_packet_38 : decode cPR_packet 38 = .ok (.if_icmp .ne 24, 3) := by decide +kernel
theorem dPR_packet_41 : decode cPR_packet 41 = .ok (.aload_n 0, 1) := by decide +kernel
theorem dPR_packet_42 : decode cPR_packet 42 = .ok (.getfield 165, 3) := by decide +kernel
theorem dPR_packet_45 : decode cPR_packet 45 = .ok (.ifCond .eq 15, 3) := by decide +kernel
theorem dPR_packet_48 : decode cPR_packet 48 = .ok (.aload_n 0, 1) := by decide +kernel
theorem dPR_packet_49 : decode cPR_packet 49 = .ok (.getfield 64, 3) := by decide +kernel
theorem dPR_packet_52 : decode cPR_packet 52 = .ok (.getfield 187, 3) := by decide +kernel
theorem dPR_packet_55 : decode cPR_packet 55 = .ok (.iload_n 1, 1) := by decide +kernel
theorem dPR_packet_56 : decode cPR_packet 56 = .ok (.iaload, 1) := by decide +kernel
theorem dPR_packet_57 : decode cPR_packet 57 = .ok (.goto 4, 3) := by decide +kernel
theorem dPR_packet_60 : decode cPR_packet 60 = .ok (.iconst (-1), 1) := by decide +kernel
theorem dPR_packet_61 : decode cPR_packet 61 = .ok (.ireturn, 1) := by decide +kernel
theorem dPR_packet_62 : decode cPR_packet 62 = .ok (.aload_n 0, 1) := by decide +kernel
theorem dPR_packet_63 : decode cPR_packet 63 = .ok (.getfield 45, 3) := by decide +kernel
theorem dPR_packet_66 : decode cPR_packet 66 = .ok (.iload_n 1, 1) := by decide +kernel
theorem dPR_packet_67 : decode cPR_packet 67 = .ok (.iload_n 2, 1) := by decide +kernel
theorem dPR_packet_68 : decode cPR_packet 68 = .ok (.invokevirtual 190, 3) := by decide +kernel
theorem dPR_packet_71 : decode cPR_packet 71 = .ok (.ireturn, 1) := by decide +kernel
abbrev cPR_write : ByteArray := prog_1_method_11_code
abbrev yPR_write : MethodName := ⟨"PacketRows", "write", "()I"⟩
abbrev wsPR_write : List Cond := .code yPR_write cPR_write 1 (some .int) :: uU
theorem dPR_write_0 : decode cPR_write 0 = .ok (.aload_n 0, 1) := by decide +kernel
theorem dPR_write_1 : decode cPR_write 1 = .ok (.getfield 64, 3) := by decide +kernel
theorem dPR_write_4 : decode cPR_write 4 = .ok (.iconst 1, 1) := by decide +kernel
theorem dPR_write_5 : decode cPR_write 5 = .ok (.invokevirtual 193, 3) := by decide +kernel
theorem dPR_write_8 : decode cPR_write 8 = .ok (.aload_n 0, 1) := by decide +kernel
theorem dPR_write_9 : decode cPR_write 9 = .ok (.getfield 82, 3) := by decide +kernel
theorem dPR_write_12 : decode cPR_write 12 = .ok (.aload_n 0, 1) := by decide +kernel
theorem dPR_write_13 : decode cPR_write 13 = .ok (.getfield 64, 3) := by decide +kernel
theorem dPR_write_16 : decode cPR_write 16 = .ok (.aload_n 0, 1) := by decide +kernel
theorem dPR_write_17 : decode cPR_write 17 = .ok (.getfield 33, 3) := by decide +kernel
theorem dPR_write_20 : decode cPR_write 20 = .ok (.invokevirtual 197, 3) := by decide +kernel
theorem dPR_write_23 : decode cPR_write 23 = .ok (.pop, 1) := by decide +kernel
theorem dPR_write_24 : decode cPR_write 24 = .ok (.aload_n 0, 1) := by decide +kernel
theorem dPR_write_25 : decode cPR_write 25 = .ok (.getfield 64, 3) := by decide +kernel
theorem dPR_write_28 : decode cPR_write 28 = .ok (.getfield 201, 3) := by decide +kernel
theorem dPR_write_31 : decode cPR_write 31 = .ok (.sipush 6000, 3) := by decide +kernel
theorem dPR_write_34 : decode cPR_write 34 = .ok (.if_icmp .le 5, 3) := by decide +kernel
theorem dPR_write_37 : decode cPR_write 37 = .ok (.iconst (-1), 1) := by decide +kernel
theorem dPR_write_38 : decode cPR_write 38 = .ok (.ireturn, 1) := by decide +kernel
theorem dPR_write_39 : decode cPR_write 39 = .ok (.aload_n 0, 1) := by decide +kernel
theorem dPR_write_40 : decode cPR_write 40 = .ok (.getfield 64, 3) := by decide +kernel
theorem dPR_write_43 : decode cPR_write 43 = .ok (.iconst 0, 1) := by decide +kernel
theorem dPR_write_44 : decode cPR_write 44 = .ok (.invokevirtual 193, 3) := by decide +kernel
theorem dPR_write_47 : decode cPR_write 47 = .ok (.aload_n 0, 1) := by decide +kernel
theorem dPR_write_48 : decode cPR_write 48 = .ok (.getfield 82, 3) := by decide +kernel
theorem dPR_write_51 : decode cPR_write 51 = .ok (.aload_n 0, 1) := by decide +kernel
theorem dPR_write_52 : decode cPR_write 52 = .ok (.getfield 64, 3) := by decide +kernel
theorem dPR_write_55 : decode cPR_write 55 = .ok (.aload_n 0, 1) := by decide +kernel
theorem dPR_write_56 : decode cPR_write 56 = .ok (.getfield 33, 3) := by decide +kernel
theorem dPR_write_59 : decode cPR_write 59 = .ok (.invokevirtual 197, 3) := by decide +kernel
theorem dPR_write_62 : decode cPR_write 62 = .ok (.pop, 1) := by decide +kernel
theorem dPR_write_63 : decode cPR_write 63 = .ok (.aload_n 0, 1) := by decide +kernel
theorem dPR_write_64 : decode cPR_write 64 = .ok (.getfield 52, 3) := by decide +kernel
theorem dPR_write_67 : decode cPR_write 67 = .ok (.aload_n 0, 1) := by decide +kernel
theorem dPR_write_68 : decode cPR_write 68 = .ok (.getfield 64, 3) := by decide +kernel
theorem dPR_write_71 : decode cPR_write 71 = .ok (.getfield 201, 3) := by decide +kernel
theorem dPR_write_74 : decode cPR_write 74 = .ok (.putfield 204, 3) := by decide +kernel
theorem dPR_write_77 : decode cPR_write 77 = .ok (.aload_n 0, 1) := by decide +kernel
theorem dPR_write_78 : decode cPR_write 78 = .ok (.iconst 1, 1) := by decide +kernel
theorem dPR_write_79 : decode cPR_write 79 = .ok (.putfield 165, 3) := by decide +kernel
theorem dPR_write_82 : decode cPR_write 82 = .ok (.aload_n 0, 1) := by decide +kernel
theorem dPR_write_83 : decode cPR_write 83 = .ok (.getfield 52, 3) := by decide +kernel
theorem dPR_write_86 : decode cPR_write 86 = .ok (.getfield 204, 3) := by decide +kernel
theorem dPR_write_89 : decode cPR_write 89 = .ok (.ireturn, 1) := by decide +kernel
abbrev cPR_feed : ByteArray := prog_1_method_12_code
abbrev yPR_feed : MethodName := ⟨"PacketRows", "feed", "(IJ)I"⟩
abbrev wsPR_feed : List Cond := .code yPR_feed cPR_feed 5 (some .int) :: uU
theorem dPR_feed_0 : decode cPR_feed 0 = .ok (.iload_n 1, 1) := by decide +kernel
theorem dPR_feed_1 : decode cPR_feed 1 = .ok (.iconst 1, 1) := by decide +kernel
theorem dPR_feed_2 : decode cPR_feed 2 = .ok (.bipush 8, 2) := by decide +kernel
theorem dPR_feed_4 : decode cPR_feed 4 = .ok (.invokestatic 116, 3) := by decide +kernel
theorem dPR_feed_7 : decode cPR_feed 7 = .ok (.ifCond .ne 13, 3) := by decide +kernel
theorem dPR_feed_10 : decode cPR_feed 10 = .ok (.new 120, 3) := by decide +kernel
theorem dPR_feed_13 : decode cPR_feed 13 = .ok (.dup, 1) := by decide +kernel
theorem dPR_feed_14 : decode cPR_feed 14 = .ok (.ldc 205, 2) := by decide +kernel
theorem dPR_feed_16 : decode cPR_feed 16 = .ok (.invokespecial 124, 3) := by decide +kernel
theorem dPR_feed_19 : decode cPR_feed 19 = .ok (.athrow, 1) := by decide +kernel
theorem dPR_feed_20 : decode cPR_feed 20 = .ok (.aload_n 0, 1) := by decide +kernel
theorem dPR_feed_21 : decode cPR_feed 21 = .ok (.getfield 52, 3) := by decide +kernel
theorem dPR_feed_24 : decode cPR_feed 24 = .ok (.getfield 204, 3) := by decide +kernel
theorem dPR_feed_27 : decode cPR_feed 27 = .ok (.iload_n 1, 1) := by decide +kernel
theorem dPR_feed_28 : decode cPR_feed 28 = .ok (.iadd, 1) := by decide +kernel
theorem dPR_feed_29 : decode cPR_feed 29 = .ok (.sipush 6000, 3) := by decide +kernel
theorem dPR_feed_32 : decode cPR_feed 32 = .ok (.if_icmp .le 5, 3) := by decide +kernel
theorem dPR_feed_35 : decode cPR_feed 35 = .ok (.iconst (-1), 1) := by decide +kernel
theorem dPR_feed_36 : decode cPR_feed 36 = .ok (.ireturn, 1) := by decide +kernel
theorem dPR_feed_37 : decode cPR_feed 37 = .ok (.iconst 0, 1) := by decide +kernel
theorem dPR_feed_38 : decode cPR_feed 38 = .ok (.istore 4, 2) := by decide +kernel
theorem dPR_feed_40 : decode cPR_feed 40 = .ok (.iload 4, 2) := by decide +kernel
theorem dPR_feed_42 : decode cPR_feed 42 = .ok (.iload_n 1, 1) := by decide +kernel
theorem dPR_feed_43 : decode cPR_feed 43 = .ok (.if_icmp .ge 28, 3) := by decide +kernel
theorem dPR_feed_46 : decode cPR_feed 46 = .ok (.aload_n 0, 1) := by decide +kernel
theorem dPR_feed_47 : decode cPR_feed 47 = .ok (.getfield 52, 3) := by decide +kernel
theorem dPR_feed_50 : decode cPR_feed 50 = .ok (.lload_n 2, 1) := by decide +kernel
theorem dPR_feed_51 : decode cPR_feed 51 = .ok (.bipush 8, 2) := by decide +kernel
theorem dPR_feed_53 : decode cPR_feed 53 = .ok (.iload 4, 2) := by decide +kernel
theorem dPR_feed_55 : decode cPR_feed 55 = .ok (.imul, 1) := by decide +kernel
theorem dPR_feed_56 : decode cPR_feed 56 = .ok (.lushr, 1) := by decide +kernel
theorem dPR_feed_57 : decode cPR_feed 57 = .ok (.l2i, 1) := by decide +kernel
theorem dPR_feed_58 : decode cPR_feed 58 = .ok (.sipush 255, 3) := by decide +kernel
theorem dPR_feed_61 : decode cPR_feed 61 = .ok (.iand, 1) := by decide +kernel
theorem dPR_feed_62 : decode cPR_feed 62 = .ok (.invokevirtual 207, 3) := by decide +kernel
theorem dPR_feed_65 : decode cPR_feed 65 = .ok (.iinc 4 1, 3) := by decide +kernel
theorem dPR_feed_68 : decode cPR_feed 68 = .ok (.goto (-28), 3) := by decide +kernel
theorem dPR_feed_71 : decode cPR_feed 71 = .ok (.aload_n 0, 1) := by decide +kernel
theorem dPR_feed_72 : decode cPR_feed 72 = .ok (.getfield 52, 3) := by decide +kernel
theorem dPR_feed_75 : decode cPR_feed 75 = .ok (.getfield 204, 3) := by decide +kernel
theorem dPR_feed_78 : decode cPR_feed 78 = .ok (.ireturn, 1) := by decide +kernel
abbrev cPR_wipe : ByteArray := prog_1_method_13_code
abbrev yPR_wipe : MethodName := ⟨"PacketRows", "wipe", "()I"⟩
abbrev wsPR_wipe : List Cond := .code yPR_wipe cPR_wipe 2 (some .int) :: uU
theorem dPR_wipe_0 : decode cPR_wipe 0 = .ok (.aload_n 0, 1) := by decide +kernel
theorem dPR_wipe_1 : decode cPR_wipe 1 = .ok (.getfield 52, 3) := by decide +kernel
theorem dPR_wipe_4 : decode cPR_wipe 4 = .ok (.getfield 204, 3) := by decide +kernel
theorem dPR_wipe_7 : decode cPR_wipe 7 = .ok (.istore_n 1, 1) := by decide +kernel
theorem dPR_wipe_8 : decode cPR_wipe 8 = .ok (.aload_n 0, 1) := by decide +kernel
theorem dPR_wipe_9 : decode cPR_wipe 9 = .ok (.getfield 52, 3) := by decide +kernel
theorem dPR_wipe_12 : decode cPR_wipe 12 = .ok (.iconst 0, 1) := by decide +kernel
theorem dPR_wipe_13 : decode cPR_wipe 13 = .ok (.putfield 204, 3) := by decide +kernel
theorem dPR_wipe_16 : decode cPR_wipe 16 = .ok (.iload_n 1, 1) := by decide +kernel
theorem dPR_wipe_17 : decode cPR_wipe 17 = .ok (.ireturn, 1) := by decide +kernel
abbrev cPR_byteAt : ByteArray := prog_1_method_14_code
abbrev yPR_byteAt : MethodName := ⟨"PacketRows", "byteAt", "(I)I"⟩
abbrev wsPR_byteAt : List Cond := .code yPR_byteAt cPR_byteAt 2 (some .int) :: uU
theorem dPR_byteAt_0 : decode cPR_byteAt 0 = .ok (.aload_n 0, 1) := by decide +kernel
theorem dPR_byteAt_1 : decode cPR_byteAt 1 = .ok (.getfield 52, 3) := by decide +kernel
theorem dPR_byteAt_4 : decode cPR_byteAt 4 = .ok (.iload_n 1, 1) := by decide +kernel
theorem dPR_byteAt_5 : decode cPR_byteAt 5 = .ok (.invokevirtual 211, 3) := by decide +kernel
theorem dPR_byteAt_8 : decode cPR_byteAt 8 = .ok (.ireturn, 1) := by decide +kernel
abbrev cPR_read : ByteArray := prog_1_method_15_code
abbrev yPR_read : MethodName := ⟨"PacketRows", "read", "()I"⟩
abbrev wsPR_read : List Cond := .code yPR_read cPR_read 2 (some .int) :: uU
theorem dPR_read_0 : decode cPR_read 0 = .ok (.aload_n 0, 1) := by decide +kernel
theorem dPR_read_1 : decode cPR_read 1 = .ok (.getfield 37, 3) := by decide +kernel
theorem dPR_read_4 : decode cPR_read 4 = .ok (.invokevirtual 214, 3) := by decide +kernel
theorem dPR_read_7 : decode cPR_read 7 = .ok (.aload_n 0, 1) := by decide +kernel
theorem dPR_read_8 : decode cPR_read 8 = .ok (.getfield 73, 3) := by decide +kernel
theorem dPR_read_11 : decode cPR_read 11 = .ok (.invokevirtual 217, 3) := by decide +kernel
theorem dPR_read_14 : decode cPR_read 14 = .ok (.aload_n 0, 1) := by decide +kernel
theorem dPR_read_15 : decode cPR_read 15 = .ok (.getfield 82, 3) := by decide +kernel
theorem dPR_read_18 : decode cPR_read 18 = .ok (.aload_n 0, 1) := by decide +kernel
theorem dPR_read_19 : decode cPR_read 19 = .ok (.getfield 73, 3) := by decide +kernel
theorem dPR_read_22 : decode cPR_read 22 = .ok (.aload_n 0, 1) := by decide +kernel
theorem dPR_read_23 : decode cPR_read 23 = .ok (.getfield 37, 3) := by decide +kernel
theorem dPR_read_26 : decode cPR_read 26 = .ok (.invokevirtual 197, 3) := by decide +kernel
theorem dPR_read_29 : decode cPR_read 29 = .ok (.istore_n 1, 1) := by decide +kernel
theorem dPR_read_30 : decode cPR_read 30 = .ok (.aload_n 0, 1) := by decide +kernel
theorem dPR_read_31 : decode cPR_read 31 = .ok (.aload_n 0, 1) := by decide +kernel
theorem dPR_read_32 : decode cPR_read 32 = .ok (.getfield 73, 3) := by decide +kernel
theorem dPR_read_35 : decode cPR_read 35 = .ok (.getfield 219, 3) := by decide +kernel
theorem dPR_read_38 : decode cPR_read 38 = .ok (.putfield 222, 3) := by decide +kernel
theorem dPR_read_41 : decode cPR_read 41 = .ok (.aload_n 0, 1) := by decide +kernel
theorem dPR_read_42 : decode cPR_read 42 = .ok (.getfield 222, 3) := by decide +kernel
theorem dPR_read_45 : decode cPR_read 45 = .ok (.ifCond .eq 19, 3) := by decide +kernel
theorem dPR_read_48 : decode cPR_read 48 = .ok (.aload_n 0, 1) := by decide +kernel
theorem dPR_read_49 : decode cPR_read 49 = .ok (.getfield 37, 3) := by decide +kernel
theorem dPR_read_52 : decode cPR_read 52 = .ok (.invokevirtual 214, 3) := by decide +kernel
theorem dPR_read_55 : decode cPR_read 55 = .ok (.aload_n 0, 1) := by decide +kernel
theorem dPR_read_56 : decode cPR_read 56 = .ok (.iconst 0, 1) := by decide +kernel
theorem dPR_read_57 : decode cPR_read 57 = .ok (.putfield 225, 3) := by decide +kernel
theorem dPR_read_60 : decode cPR_read 60 = .ok (.iconst (-1), 1) := by decide +kernel
theorem dPR_read_61 : decode cPR_read 61 = .ok (.iload_n 1, 1) := by decide +kernel
theorem dPR_read_62 : decode cPR_read 62 = .ok (.isub, 1) := by decide +kernel
theorem dPR_read_63 : decode cPR_read 63 = .ok (.ireturn, 1) := by decide +kernel
theorem dPR_read_64 : decode cPR_read 64 = .ok (.aload_n 0, 1) := by decide +kernel
theorem dPR_read_65 : decode cPR_read 65 = .ok (.aload_n 0, 1) := by decide +kernel
theorem dPR_read_66 : decode cPR_read 66 = .ok (.getfield 73, 3) := by decide +kernel
theorem dPR_read_69 : decode cPR_read 69 = .ok (.getfield 228, 3) := by decide +kernel
theorem dPR_read_72 : decode cPR_read 72 = .ok (.putfield 225, 3) := by decide +kernel
theorem dPR_read_75 : decode cPR_read 75 = .ok (.iload_n 1, 1) := by decide +kernel
theorem dPR_read_76 : decode cPR_read 76 = .ok (.ireturn, 1) := by decide +kernel
abbrev cPR_got : ByteArray := prog_1_method_16_code
abbrev yPR_got : MethodName := ⟨"PacketRows", "got", "(II)I"⟩
abbrev wsPR_got : List Cond := .code yPR_got cPR_got 5 (some .int) :: uU
theorem dPR_got_0 : decode cPR_got 0 = .ok (.iload_n 1, 1) := by decide +kernel
theorem dPR_got_1 : decode cPR_got 1 = .ok (.iconst 0, 1) := by decide +kernel
theorem dPR_got_2 : decode cPR_got 2 = .ok (.aload_n 0, 1) := by decide +kernel
theorem dPR_got_3 : decode cPR_got 3 = .ok (.getfield 18, 3) := by decide +kernel
theorem dPR_got_6 : decode cPR_got 6 = .ok (.getfield 28, 3) := by decide +kernel
theorem dPR_got_9 : decode cPR_got 9 = .ok (.iconst 1, 1) := by decide +kernel
theorem dPR_got_10 : decode cPR_got 10 = .ok (.isub, 1) := by decide +kernel
theorem dPR_got_11 : decode cPR_got 11 = .ok (.invokestatic 116, 3) := by decide +kernel
theorem dPR_got_14 : decode cPR_got 14 = .ok (.ifCond .eq 12, 3) := by decide +kernel
theorem dPR_got_17 : decode cPR_got 17 = .ok (.iload_n 2, 1) := by decide +kernel
theorem dPR_got_18 : decode cPR_got 18 = .ok (.iconst 0, 1) := by decide +kernel
theorem dPR_got_19 : decode cPR_got 19 = .ok (.iconst 3, 1) := by decide +kernel
theorem dPR_got_20 : decode cPR_got 20 = .ok (.invokestatic 116, 3) := by decide +kernel
theorem dPR_got_23 : decode cPR_got 23 = .ok (.ifCond .ne 13, 3) := by decide +kernel
theorem dPR_got_26 : decode cPR_got 26 = .ok (.new 109, 3) := by decide +kernel
theorem dPR_got_29 : decode cPR_got 29 = .ok (.dup, 1) := by decide +kernel
theorem dPR_got_30 : decode cPR_got 30 = .ok (.ldc 231, 2) := by decide +kernel
theorem dPR_got_32 : decode cPR_got 32 = .ok (.invokespecial 113, 3) := by decide +kernel
theorem dPR_got_35 : decode cPR_got 35 = .ok (.athrow, 1) := by decide +kernel
theorem dPR_got_36 : decode cPR_got 36 = .ok (.aload_n 0, 1) := by decide +kernel
theorem dPR_got_37 : decode cPR_got 37 = .ok (.invokevirtual 154, 3) := by decide +kernel
theorem dPR_got_40 : decode cPR_got 40 = .ok (.istore_n 3, 1) := by decide +kernel
theorem dPR_got_41 : decode cPR_got 41 = .ok (.iload_n 2, 1) := by decide +kernel
theorem dPR_got_42 : decode cPR_got 42 = .ok (.tableswitch 56 0 2 #[26, 36, 46], 26) := by decide +kernel
theorem dPR_got_68 : decode cPR_got 68 = .ok (.aload_n 0, 1) := by decide +kernel
theorem dPR_got_69 : decode cPR_got 69 = .ok (.getfield 37, 3) := by decide +kernel
theorem dPR_got_72 : decode cPR_got 72 = .ok (.iload_n 3, 1) := by decide +kernel
theorem dPR_got_73 : decode cPR_got 73 = .ok (.iload_n 1, 1) := by decide +kernel
theorem dPR_got_74 : decode cPR_got 74 = .ok (.invokevirtual 233, 3) := by decide +kernel
theorem dPR_got_77 : decode cPR_got 77 = .ok (.ireturn, 1) := by decide +kernel
theorem dPR_got_78 : decode cPR_got 78 = .ok (.aload_n 0, 1) := by decide +kernel
theorem dPR_got_79 : decode cPR_got 79 = .ok (.getfield 37, 3) := by decide +kernel
theorem dPR_got_82 : decode cPR_got 82 = .ok (.iload_n 3, 1) := by decide +kernel
theorem dPR_got_83 : decode cPR_got 83 = .ok (.iload_n 1, 1) := by decide +kernel
theorem dPR_got_84 : decode cPR_got 84 = .ok (.invokevirtual 236, 3) := by decide +kernel
theorem dPR_got_87 : decode cPR_got 87 = .ok (.ireturn, 1) := by decide +kernel
theorem dPR_got_88 : decode cPR_got 88 = .ok (.aload_n 0, 1) := by decide +kernel
theorem dPR_got_89 : decode cPR_got 89 = .ok (.getfield 37, 3) := by decide +kernel
theorem dPR_got_92 : decode cPR_got 92 = .ok (.getfield 171, 3) := by decide +kernel
theorem dPR_got_95 : decode cPR_got 95 = .ok (.iload_n 3, 1) := by decide +kernel
theorem dPR_got_96 : decode cPR_got 96 = .ok (.iaload, 1) := by decide +kernel
theorem dPR_got_97 : decode cPR_got 97 = .ok (.ireturn, 1) := by decide +kernel
theorem dPR_got_98 : decode cPR_got 98 = .ok (.aload_n 0, 1) := by decide +kernel
theorem dPR_got_99 : decode cPR_got 99 = .ok (.getfield 37, 3) := by decide +kernel
theorem dPR_got_102 : decode cPR_got 102 = .ok (.iload_n 3, 1) := by decide +kernel
theorem dPR_got_103 : decode cPR_got 103 = .ok (.invokevirtual 239, 3) := by decide +kernel
theorem dPR_got_106 : decode cPR_got 106 = .ok (.istore 4, 2) := by decide +kernel
theorem dPR_got_108 : decode cPR_got 108 = .ok (.iload 4, 2) := by decide +kernel
theorem dPR_got_110 : decode cPR_got 110 = .ok (.aload_n 0, 1) := by decide +kernel
theorem dPR_got_111 : decode cPR_got 111 = .ok (.getfield 18, 3) := by decide +kernel
theorem dPR_got_114 : decode cPR_got 114 = .ok (.getfield 28, 3) := by decide +kernel
theorem dPR_got_117 : decode cPR_got 117 = .ok (.if_icmp .ge 8, 3) := by decide +kernel
theorem dPR_got_120 : decode cPR_got 120 = .ok (.iload 4, 2) := by decide +kernel
theorem dPR_got_122 : decode cPR_got 122 = .ok (.goto 4, 3) := by decide +kernel
theorem dPR_got_125 : decode cPR_got 125 = .ok (.iconst (-1), 1) := by decide +kernel
theorem dPR_got_126 : decode cPR_got 126 = .ok (.ireturn, 1) := by decide +kernel
abbrev cPR_told : ByteArray := prog_1_method_17_code
abbrev yPR_told : MethodName := ⟨"PacketRows", "told", "(I)I"⟩
abbrev wsPR_told : List Cond := .code yPR_told cPR_told 2 (some .int) :: uU
theorem dPR_told_0 : decode cPR_told 0 = .ok (.iload_n 1, 1) := by decide +kernel
theorem dPR_told_1 : decode cPR_told 1 = .ok (.tableswitch 81 0 5 #[39, 47, 55, 63, 71, 76], 39) := by decide +kernel
theorem dPR_told_40 : decode cPR_told 40 = .ok (.aload_n 0, 1) := by decide +kernel
theorem dPR_told_41 : decode cPR_told 41 = .ok (.getfield 52, 3) := by decide +kernel
theorem dPR_told_44 : decode cPR_told 44 = .ok (.getfield 204, 3) := by decide +kernel
theorem dPR_told_47 : decode cPR_told 47 = .ok (.ireturn, 1) := by decide +kernel
theorem dPR_told_48 : decode cPR_told 48 = .ok (.aload_n 0, 1) := by decide +kernel
theorem dPR_told_49 : decode cPR_told 49 = .ok (.getfield 18, 3) := by decide +kernel
theorem dPR_told_52 : decode cPR_told 52 = .ok (.invokevirtual 92, 3) := by decide +kernel
theorem dPR_told_55 : decode cPR_told 55 = .ok (.ireturn, 1) := by decide +kernel
theorem dPR_told_56 : decode cPR_told 56 = .ok (.aload_n 0, 1) := by decide +kernel
theorem dPR_told_57 : decode cPR_told 57 = .ok (.getfield 45, 3) := by decide +kernel
theorem dPR_told_60 : decode cPR_told 60 = .ok (.getfield 176, 3) := by decide +kernel
theorem dPR_told_63 : decode cPR_told 63 = .ok (.ireturn, 1) := by decide +kernel
theorem dPR_told_64 : decode cPR_told 64 = .ok (.aload_n 0, 1) := by decide +kernel
theorem dPR_told_65 : decode cPR_told 65 = .ok (.getfield 18, 3) := by decide +kernel
theorem dPR_told_68 : decode cPR_told 68 = .ok (.getfield 89, 3) := by decide +kernel
theorem dPR_told_71 : decode cPR_told 71 = .ok (.ireturn, 1) := by decide +kernel
theorem dPR_told_72 : decode cPR_told 72 = .ok (.aload_n 0, 1) := by decide +kernel
theorem dPR_told_73 : decode cPR_told 73 = .ok (.getfield 222, 3) := by decide +kernel
theorem dPR_told_76 : decode cPR_told 76 = .ok (.ireturn, 1) := by decide +kernel
theorem dPR_told_77 : decode cPR_told 77 = .ok (.aload_n 0, 1) := by decide +kernel
theorem dPR_told_78 : decode cPR_told 78 = .ok (.getfield 225, 3) := by decide +kernel
theorem dPR_told_81 : decode cPR_told 81 = .ok (.ireturn, 1) := by decide +kernel
theorem dPR_told_82 : decode cPR_told 82 = .ok (.new 109, 3) := by decide +kernel
theorem dPR_told_85 : decode cPR_told 85 = .ok (.dup, 1) := by decide +kernel
theorem dPR_told_86 : decode cPR_told 86 = .ok (.ldc 242, 2) := by decide +kernel
theorem dPR_told_88 : decode cPR_told 88 = .ok (.invokespecial 113, 3) := by decide +kernel
theorem dPR_told_91 : decode cPR_told 91 = .ok (.athrow, 1) := by decide +kernel
abbrev cPR_within : ByteArray := prog_1_method_18_code
abbrev yPR_within : MethodName := ⟨"PacketRows", "within", "(III)I"⟩
abbrev wsPR_within : List Cond := .code yPR_within cPR_within 3 (some .int) :: uU
theorem dPR_within_0 : decode cPR_within 0 = .ok (.iload_n 1, 1) := by decide +kernel
theorem dPR_within_1 : decode cPR_within 1 = .ok (.iload_n 2, 1) := by decide +kernel
theorem dPR_within_2 : decode cPR_within 2 = .ok (.iload_n 0, 1) := by decide +kernel
theorem dPR_within_3 : decode cPR_within 3 = .ok (.invokestatic 244, 3) := by decide +kernel
theorem dPR_within_6 : decode cPR_within 6 = .ok (.invokestatic 249, 3) := by decide +kernel
theorem dPR_within_9 : decode cPR_within 9 = .ok (.ireturn, 1) := by decide +kernel
abbrev cPR_isWithin : ByteArray := prog_1_method_19_code
abbrev yPR_isWithin : MethodName := ⟨"PacketRows", "isWithin", "(III)Z"⟩
abbrev wsPR_isWithin : List Cond := .code yPR_isWithin cPR_isWithin 3 (some .boolean) :: uU
theorem dPR_isWithin_0 : decode cPR_isWithin 0 = .ok (.iload_n 0, 1) := by decide +kernel
theorem dPR_isWithin_1 : decode cPR_isWithin 1 = .ok (.iload_n 1, 1) := by decide +kernel
theorem dPR_isWithin_2 : decode cPR_isWithin 2 = .ok (.if_icmp .lt 12, 3) := by decide +kernel
theorem dPR_isWithin_5 : decode cPR_isWithin 5 = .ok (.iload_n 0, 1) := by decide +kernel
theorem dPR_isWithin_6 : decode cPR_isWithin 6 = .ok (.iload_n 2, 1) := by decide +kernel
theorem dPR_isWithin_7 : decode cPR_isWithin 7 = .ok (.if_icmp .gt 7, 3) := by decide +kernel
theorem dPR_isWithin_10 : decode cPR_isWithin 10 = .ok (.iconst 1, 1) := by decide +kernel
theorem dPR_isWithin_11 : decode cPR_isWithin 11 = .ok (.goto 4, 3) := by decide +kernel
theorem dPR_isWithin_14 : decode cPR_isWithin 14 = .ok (.iconst 0, 1) := by decide +kernel
theorem dPR_isWithin_15 : decode cPR_isWithin 15 = .ok (.ireturn, 1) := by decide +kernel
abbrev cPR_chosenBlock : ByteArray := prog_1_method_20_code
abbrev yPR_chosenBlock : MethodName := ⟨"PacketRows", "chosenBlock", "()I"⟩
abbrev wsPR_chosenBlock : List Cond := .code yPR_chosenBlock cPR_chosenBlock 1 (some .int) :: uU
theorem dPR_chosenBlock_0 : decode cPR_chosenBlock 0 = .ok (.aload_n 0, 1) := by decide +kernel
theorem dPR_chosenBlock_1 : decode cPR_chosenBlock 1 = .ok (.getfield 18, 3) := by decide +kernel
theorem dPR_chosenBlock_4 : decode cPR_chosenBlock 4 = .ok (.getfield 133, 3) := by decide +kernel
theorem dPR_chosenBlock_7 : decode cPR_chosenBlock 7 = .ok (.aload_n 0, 1) := by decide +kernel
theorem dPR_chosenBlock_8 : decode cPR_chosenBlock 8 = .ok (.getfield 139, 3) := by decide +kernel
theorem dPR_chosenBlock_11 : decode cPR_chosenBlock 11 = .ok (.iaload, 1) := by decide +kernel
theorem dPR_chosenBlock_12 : decode cPR_chosenBlock 12 = .ok (.aload_n 0, 1) := by decide +kernel
theorem dPR_chosenBlock_13 : decode cPR_chosenBlock 13 = .ok (.getfield 142, 3) := by decide +kernel
theorem dPR_chosenBlock_16 : decode cPR_chosenBlock 16 = .ok (.iadd, 1) := by decide +kernel
theorem dPR_chosenBlock_17 : decode cPR_chosenBlock 17 = .ok (.ireturn, 1) := by decide +kernel
abbrev cPR_makeRoom : ByteArray := prog_1_method_21_code
abbrev yPR_makeRoom : MethodName := ⟨"PacketRows", "makeRoom", "(IIII)V"⟩
abbrev wsPR_makeRoom : List Cond := .code yPR_makeRoom cPR_makeRoom 5 (none) :: uU
theorem dPR_makeRoom_0 : decode cPR_makeRoom 0 = .ok (.aload_n 0, 1) := by decide +kernel
theorem dPR_makeRoom_1 : decode cPR_makeRoom 1 = .ok (.getfield 33, 3) := by decide +kernel
theorem dPR_makeRoom_4 : decode cPR_makeRoom 4 = .ok (.iload_n 1, 1) := by decide +kernel
theorem dPR_makeRoom_5 : decode cPR_makeRoom 5 = .ok (.iload_n 2, 1) := by decide +kernel
theorem dPR_makeRoom_6 : decode cPR_makeRoom 6 = .ok (.iload_n 3, 1) := by decide +kernel
theorem dPR_makeRoom_7 : decode cPR_makeRoom 7 = .ok (.iload 4, 2) := by decide +kernel
theorem dPR_makeRoom_9 : decode cPR_makeRoom 9 = .ok (.invokevirtual 252, 3) := by decide +kernel
theorem dPR_makeRoom_12 : decode cPR_makeRoom 12 = .ok (.aload_n 0, 1) := by decide +kernel
theorem dPR_makeRoom_13 : decode cPR_makeRoom 13 = .ok (.getfield 37, 3) := by decide +kernel
theorem dPR_makeRoom_16 : decode cPR_makeRoom 16 = .ok (.iload_n 1, 1) := by decide +kernel
theorem dPR_makeRoom_17 : decode cPR_makeRoom 17 = .ok (.iload_n 2, 1) := by decide +kernel
theorem dPR_makeRoom_18 : decode cPR_makeRoom 18 = .ok (.iload_n 3, 1) := by decide +kernel
theorem dPR_makeRoom_19 : decode cPR_makeRoom 19 = .ok (.iload 4, 2) := by decide +kernel
theorem dPR_makeRoom_21 : decode cPR_makeRoom 21 = .ok (.invokevirtual 252, 3) := by decide +kernel
theorem dPR_makeRoom_24 : decode cPR_makeRoom 24 = .ok (.return_, 1) := by decide +kernel
abbrev cPR_packetsChanged : ByteArray := prog_1_method_22_code
abbrev yPR_packetsChanged : MethodName := ⟨"PacketRows", "packetsChanged", "()V"⟩
abbrev wsPR_packetsChanged : List Cond := .code yPR_packetsChanged cPR_packetsChanged 1 (none) :: uU
theorem dPR_packetsChanged_0 : decode cPR_packetsChanged 0 = .ok (.aload_n 0, 1) := by decide +kernel
theorem dPR_packetsChanged_1 : decode cPR_packetsChanged 1 = .ok (.getfield 45, 3) := by decide +kernel
theorem dPR_packetsChanged_4 : decode cPR_packetsChanged 4 = .ok (.invokevirtual 86, 3) := by decide +kernel
theorem dPR_packetsChanged_7 : decode cPR_packetsChanged 7 = .ok (.aload_n 0, 1) := by decide +kernel
theorem dPR_packetsChanged_8 : decode cPR_packetsChanged 8 = .ok (.iconst 0, 1) := by decide +kernel
theorem dPR_packetsChanged_9 : decode cPR_packetsChanged 9 = .ok (.putfield 165, 3) := by decide +kernel
theorem dPR_packetsChanged_12 : decode cPR_packetsChanged 12 = .ok (.return_, 1) := by decide +kernel
abbrev cAR_fill : ByteArray := prog_28_method_103_code
abbrev yAR_fill : MethodName := ⟨"java/util/Arrays", "fill", "([II)V"⟩
abbrev wsAR_fill : List Cond := .code yAR_fill cAR_fill 4 (none) :: uU
theorem dAR_fill_0 : decode cAR_fill 0 = .ok (.iconst 0, 1) := by decide +kernel
theorem dAR_fill_1 : decode cAR_fill 1 = .ok (.istore_n 2, 1) := by decide +kernel
theorem dAR_fill_2 : decode cAR_fill 2 = .ok (.aload_n 0, 1) := by decide +kernel
theorem dAR_fill_3 : decode cAR_fill 3 = .ok (.arraylength, 1) := by decide +kernel
theorem dAR_fill_4 : decode cAR_fill 4 = .ok (.istore_n 3, 1) := by decide +kernel
theorem dAR_fill_5 : decode cAR_fill 5 = .ok (.iload_n 2, 1) := by decide +kernel
theorem dAR_fill_6 : decode cAR_fill 6 = .ok (.iload_n 3, 1) := by decide +kernel
theorem dAR_fill_7 : decode cAR_fill 7 = .ok (.if_icmp .ge 13, 3) := by decide +kernel
theorem dAR_fill_10 : decode cAR_fill 10 = .ok (.aload_n 0, 1) := by decide +kernel
theorem dAR_fill_11 : decode cAR_fill 11 = .ok (.iload_n 2, 1) := by decide +kernel
theorem dAR_fill_12 : decode cAR_fill 12 = .ok (.iload_n 1, 1) := by decide +kernel
theorem dAR_fill_13 : decode cAR_fill 13 = .ok (.iastore, 1) := by decide +kernel
theorem dAR_fill_14 : decode cAR_fill 14 = .ok (.iinc 2 1, 3) := by decide +kernel
theorem dAR_fill_17 : decode cAR_fill 17 = .ok (.goto (-12), 3) := by decide +kernel
theorem dAR_fill_20 : decode cAR_fill 20 = .ok (.return_, 1) := by decide +kernel
abbrev cAR_fill_ : ByteArray := prog_28_method_104_code
abbrev yAR_fill_ : MethodName := ⟨"java/util/Arrays", "fill", "([IIII)V"⟩
abbrev wsAR_fill_ : List Cond := .code yAR_fill_ cAR_fill_ 5 (none) :: uU
theorem dAR_fill__0 : decode cAR_fill_ 0 = .ok (.aload_n 0, 1) := by decide +kernel
theorem dAR_fill__1 : decode cAR_fill_ 1 = .ok (.arraylength, 1) := by decide +kernel
theorem dAR_fill__2 : decode cAR_fill_ 2 = .ok (.iload_n 1, 1) := by decide +kernel
theorem dAR_fill__3 : decode cAR_fill_ 3 = .ok (.iload_n 2, 1) := by decide +kernel
theorem dAR_fill__4 : decode cAR_fill_ 4 = .ok (.invokestatic 13, 3) := by decide +kernel
theorem dAR_fill__7 : decode cAR_fill_ 7 = .ok (.iload_n 1, 1) := by decide +kernel
theorem dAR_fill__8 : decode cAR_fill_ 8 = .ok (.istore 4, 2) := by decide +kernel
theorem dAR_fill__10 : decode cAR_fill_ 10 = .ok (.iload 4, 2) := by decide +kernel
theorem dAR_fill__12 : decode cAR_fill_ 12 = .ok (.iload_n 2, 1) := by decide +kernel
theorem dAR_fill__13 : decode cAR_fill_ 13 = .ok (.if_icmp .ge 14, 3) := by decide +kernel
theorem dAR_fill__16 : decode cAR_fill_ 16 = .ok (.aload_n 0, 1) := by decide +kernel
theorem dAR_fill__17 : decode cAR_fill_ 17 = .ok (.iload 4, 2) := by decide +kernel
theorem dAR_fill__19 : decode cAR_fill_ 19 = .ok (.iload_n 3, 1) := by decide +kernel
theorem dAR_fill__20 : decode cAR_fill_ 20 = .ok (.iastore, 1) := by decide +kernel
theorem dAR_fill__21 : decode cAR_fill_ 21 = .ok (.iinc 4 1, 3) := by decide +kernel
theorem dAR_fill__24 : decode cAR_fill_ 24 = .ok (.goto (-14), 3) := by decide +kernel
theorem dAR_fill__27 : decode cAR_fill_ 27 = .ok (.return_, 1) := by decide +kernel
abbrev cAR_rangeCheck : ByteArray := prog_28_method_30_code
abbrev yAR_rangeCheck : MethodName := ⟨"java/util/Arrays", "rangeCheck", "(III)V"⟩
abbrev wsAR_rangeCheck : List Cond := .code yAR_rangeCheck cAR_rangeCheck 3 (none) :: uU
theorem dAR_rangeCheck_0 : decode cAR_rangeCheck 0 = .ok (.iload_n 1, 1) := by decide +kernel
theorem dAR_rangeCheck_1 : decode cAR_rangeCheck 1 = .ok (.iload_n 2, 1) := by decide +kernel
theorem dAR_rangeCheck_2 : decode cAR_rangeCheck 2 = .ok (.if_icmp .le 44, 3) := by decide +kernel
theorem dAR_rangeCheck_5 : decode cAR_rangeCheck 5 = .ok (.new 43, 3) := by decide +kernel
theorem dAR_rangeCheck_8 : decode cAR_rangeCheck 8 = .ok (.dup, 1) := by decide +kernel
theorem dAR_rangeCheck_9 : decode cAR_rangeCheck 9 = .ok (.new 45, 3) := by decide +kernel
theorem dAR_rangeCheck_12 : decode cAR_rangeCheck 12 = .ok (.dup, 1) := by decide +kernel
theorem dAR_rangeCheck_13 : decode cAR_rangeCheck 13 = .ok (.invokespecial 47, 3) := by decide +kernel
theorem dAR_rangeCheck_16 : decode cAR_rangeCheck 16 = .ok (.ldc 48, 2) := by decide +kernel
theorem dAR_rangeCheck_18 : decode cAR_rangeCheck 18 = .ok (.invokevirtual 50, 3) := by decide +kernel
theorem dAR_rangeCheck_21 : decode cAR_rangeCheck 21 = .ok (.iload_n 1, 1) := by decide +kernel
theorem dAR_rangeCheck_22 : decode cAR_rangeCheck 22 = .ok (.invokevirtual 54, 3) := by decide +kernel
theorem dAR_rangeCheck_25 : decode cAR_rangeCheck 25 = .ok (.ldc 57, 2) := by decide +kernel
theorem dAR_rangeCheck_27 : decode cAR_rangeCheck 27 = .ok (.invokevirtual 50, 3) := by decide +kernel
theorem dAR_rangeCheck_30 : decode cAR_rangeCheck 30 = .ok (.iload_n 2, 1) := by decide +kernel
theorem dAR_rangeCheck_31 : decode cAR_rangeCheck 31 = .ok (.invokevirtual 54, 3) := by decide +kernel
theorem dAR_rangeCheck_34 : decode cAR_rangeCheck 34 = .ok (.ldc 59, 2) := by decide +kernel
theorem dAR_rangeCheck_36 : decode cAR_rangeCheck 36 = .ok (.invokevirtual 50, 3) := by decide +kernel
theorem dAR_rangeCheck_39 : decode cAR_rangeCheck 39 = .ok (.invokevirtual 61, 3) := by decide +kernel
theorem dAR_rangeCheck_42 : decode cAR_rangeCheck 42 = .ok (.invokespecial 65, 3) := by decide +kernel
theorem dAR_rangeCheck_45 : decode cAR_rangeCheck 45 = .ok (.athrow, 1) := by decide +kernel
theorem dAR_rangeCheck_46 : decode cAR_rangeCheck 46 = .ok (.iload_n 1, 1) := by decide +kernel
theorem dAR_rangeCheck_47 : decode cAR_rangeCheck 47 = .ok (.ifCond .ge 12, 3) := by decide +kernel
theorem dAR_rangeCheck_50 : decode cAR_rangeCheck 50 = .ok (.new 68, 3) := by decide +kernel
theorem dAR_rangeCheck_53 : decode cAR_rangeCheck 53 = .ok (.dup, 1) := by decide +kernel
theorem dAR_rangeCheck_54 : decode cAR_rangeCheck 54 = .ok (.iload_n 1, 1) := by decide +kernel
theorem dAR_rangeCheck_55 : decode cAR_rangeCheck 55 = .ok (.invokespecial 70, 3) := by decide +kernel
theorem dAR_rangeCheck_58 : decode cAR_rangeCheck 58 = .ok (.athrow, 1) := by decide +kernel
theorem dAR_rangeCheck_59 : decode cAR_rangeCheck 59 = .ok (.iload_n 2, 1) := by decide +kernel
theorem dAR_rangeCheck_60 : decode cAR_rangeCheck 60 = .ok (.iload_n 0, 1) := by decide +kernel
theorem dAR_rangeCheck_61 : decode cAR_rangeCheck 61 = .ok (.if_icmp .le 12, 3) := by decide +kernel
theorem dAR_rangeCheck_64 : decode cAR_rangeCheck 64 = .ok (.new 68, 3) := by decide +kernel
theorem dAR_rangeCheck_67 : decode cAR_rangeCheck 67 = .ok (.dup, 1) := by decide +kernel
theorem dAR_rangeCheck_68 : decode cAR_rangeCheck 68 = .ok (.iload_n 2, 1) := by decide +kernel
theorem dAR_rangeCheck_69 : decode cAR_rangeCheck 69 = .ok (.invokespecial 70, 3) := by decide +kernel
theorem dAR_rangeCheck_72 : decode cAR_rangeCheck 72 = .ok (.athrow, 1) := by decide +kernel
theorem dAR_rangeCheck_73 : decode cAR_rangeCheck 73 = .ok (.return_, 1) := by decide +kernel

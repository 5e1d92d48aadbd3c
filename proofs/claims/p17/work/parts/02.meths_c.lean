abbrev cMO_init : ByteArray := prog_12_method_1_code
abbrev yMO_init : MethodName := ⟨"PacketRowsModel", "<init>", "(II)V"⟩
abbrev wsMO_init : List Cond := .code yMO_init cMO_init 4 (none) :: uU
theorem dMO_init_0 : decode cMO_init 0 = .ok (.aload_n 0, 1) := by decide +kernel
theorem dMO_init_1 : decode cMO_init 1 = .ok (.invokespecial 1, 3) := by decide +kernel
theorem dMO_init_4 : decode cMO_init 4 = .ok (.aload_n 0, 1) := by decide +kernel
theorem dMO_init_5 : decode cMO_init 5 = .ok (.iconst 1, 1) := by decide +kernel
theorem dMO_init_6 : decode cMO_init 6 = .ok (.putfield 7, 3) := by decide +kernel
theorem dMO_init_9 : decode cMO_init 9 = .ok (.aload_n 0, 1) := by decide +kernel
theorem dMO_init_10 : decode cMO_init 10 = .ok (.bipush 12, 2) := by decide +kernel
theorem dMO_init_12 : decode cMO_init 12 = .ok (.newarray .int, 2) := by decide +kernel
theorem dMO_init_14 : decode cMO_init 14 = .ok (.putfield 13, 3) := by decide +kernel
theorem dMO_init_17 : decode cMO_init 17 = .ok (.aload_n 0, 1) := by decide +kernel
theorem dMO_init_18 : decode cMO_init 18 = .ok (.bipush 12, 2) := by decide +kernel
theorem dMO_init_20 : decode cMO_init 20 = .ok (.newarray .int, 2) := by decide +kernel
theorem dMO_init_22 : decode cMO_init 22 = .ok (.putfield 17, 3) := by decide +kernel
theorem dMO_init_25 : decode cMO_init 25 = .ok (.aload_n 0, 1) := by decide +kernel
theorem dMO_init_26 : decode cMO_init 26 = .ok (.bipush 12, 2) := by decide +kernel
theorem dMO_init_28 : decode cMO_init 28 = .ok (.newarray .int, 2) := by decide +kernel
theorem dMO_init_30 : decode cMO_init 30 = .ok (.putfield 20, 3) := by decide +kernel
theorem dMO_init_33 : decode cMO_init 33 = .ok (.aload_n 0, 1) := by decide +kernel
theorem dMO_init_34 : decode cMO_init 34 = .ok (.sipush 1728, 3) := by decide +kernel
theorem dMO_init_37 : decode cMO_init 37 = .ok (.newarray .int, 2) := by decide +kernel
theorem dMO_init_39 : decode cMO_init 39 = .ok (.putfield 23, 3) := by decide +kernel
theorem dMO_init_42 : decode cMO_init 42 = .ok (.aload_n 0, 1) := by decide +kernel
theorem dMO_init_43 : decode cMO_init 43 = .ok (.sipush 13824, 3) := by decide +kernel
theorem dMO_init_46 : decode cMO_init 46 = .ok (.newarray .int, 2) := by decide +kernel
theorem dMO_init_48 : decode cMO_init 48 = .ok (.putfield 26, 3) := by decide +kernel
theorem dMO_init_51 : decode cMO_init 51 = .ok (.aload_n 0, 1) := by decide +kernel
theorem dMO_init_52 : decode cMO_init 52 = .ok (.sipush 13824, 3) := by decide +kernel
theorem dMO_init_55 : decode cMO_init 55 = .ok (.newarray .int, 2) := by decide +kernel
theorem dMO_init_57 : decode cMO_init 57 = .ok (.putfield 29, 3) := by decide +kernel
theorem dMO_init_60 : decode cMO_init 60 = .ok (.aload_n 0, 1) := by decide +kernel
theorem dMO_init_61 : decode cMO_init 61 = .ok (.sipush 1728, 3) := by decide +kernel
theorem dMO_init_64 : decode cMO_init 64 = .ok (.newarray .int, 2) := by decide +kernel
theorem dMO_init_66 : decode cMO_init 66 = .ok (.putfield 32, 3) := by decide +kernel
theorem dMO_init_69 : decode cMO_init 69 = .ok (.aload_n 0, 1) := by decide +kernel
theorem dMO_init_70 : decode cMO_init 70 = .ok (.sipush 1728, 3) := by decide +kernel
theorem dMO_init_73 : decode cMO_init 73 = .ok (.newarray .int, 2) := by decide +kernel
theorem dMO_init_75 : decode cMO_init 75 = .ok (.putfield 35, 3) := by decide +kernel
theorem dMO_init_78 : decode cMO_init 78 = .ok (.aload_n 0, 1) := by decide +kernel
theorem dMO_init_79 : decode cMO_init 79 = .ok (.sipush 13824, 3) := by decide +kernel
theorem dMO_init_82 : decode cMO_init 82 = .ok (.newarray .int, 2) := by decide +kernel
theorem dMO_init_84 : decode cMO_init 84 = .ok (.putfield 38, 3) := by decide +kernel
theorem dMO_init_87 : decode cMO_init 87 = .ok (.aload_n 0, 1) := by decide +kernel
theorem dMO_init_88 : decode cMO_init 88 = .ok (.sipush 13824, 3) := by decide +kernel
theorem dMO_init_91 : decode cMO_init 91 = .ok (.newarray .int, 2) := by decide +kernel
theorem dMO_init_93 : decode cMO_init 93 = .ok (.putfield 41, 3) := by decide +kernel
theorem dMO_init_96 : decode cMO_init 96 = .ok (.aload_n 0, 1) := by decide +kernel
theorem dMO_init_97 : decode cMO_init 97 = .ok (.bipush 24, 2) := by decide +kernel
theorem dMO_init_99 : decode cMO_init 99 = .ok (.newarray .int, 2) := by decide +kernel
theorem dMO_init_101 : decode cMO_init 101 = .ok (.putfield 44, 3) := by decide +kernel
theorem dMO_init_104 : decode cMO_init 104 = .ok (.aload_n 0, 1) := by decide +kernel
theorem dMO_init_105 : decode cMO_init 105 = .ok (.sipush 1536, 3) := by decide +kernel
theorem dMO_init_108 : decode cMO_init 108 = .ok (.newarray .int, 2) := by decide +kernel
theorem dMO_init_110 : decode cMO_init 110 = .ok (.putfield 47, 3) := by decide +kernel
theorem dMO_init_113 : decode cMO_init 113 = .ok (.aload_n 0, 1) := by decide +kernel
theorem dMO_init_114 : decode cMO_init 114 = .ok (.sipush 384, 3) := by decide +kernel
theorem dMO_init_117 : decode cMO_init 117 = .ok (.newarray .boolean, 2) := by decide +kernel
theorem dMO_init_119 : decode cMO_init 119 = .ok (.putfield 50, 3) := by decide +kernel
theorem dMO_init_122 : decode cMO_init 122 = .ok (.aload_n 0, 1) := by decide +kernel
theorem dMO_init_123 : decode cMO_init 123 = .ok (.sipush 384, 3) := by decide +kernel
theorem dMO_init_126 : decode cMO_init 126 = .ok (.newarray .int, 2) := by decide +kernel
theorem dMO_init_128 : decode cMO_init 128 = .ok (.putfield 54, 3) := by decide +kernel
theorem dMO_init_131 : decode cMO_init 131 = .ok (.aload_n 0, 1) := by decide +kernel
theorem dMO_init_132 : decode cMO_init 132 = .ok (.sipush 6000, 3) := by decide +kernel
theorem dMO_init_135 : decode cMO_init 135 = .ok (.newarray .int, 2) := by decide +kernel
theorem dMO_init_137 : decode cMO_init 137 = .ok (.putfield 57, 3) := by decide +kernel
theorem dMO_init_140 : decode cMO_init 140 = .ok (.aload_n 0, 1) := by decide +kernel
theorem dMO_init_141 : decode cMO_init 141 = .ok (.sipush 1728, 3) := by decide +kernel
theorem dMO_init_144 : decode cMO_init 144 = .ok (.newarray .int, 2) := by decide +kernel
theorem dMO_init_146 : decode cMO_init 146 = .ok (.putfield 60, 3) := by decide +kernel
theorem dMO_init_149 : decode cMO_init 149 = .ok (.aload_n 0, 1) := by decide +kernel
theorem dMO_init_150 : decode cMO_init 150 = .ok (.sipush 4896, 3) := by decide +kernel
theorem dMO_init_153 : decode cMO_init 153 = .ok (.newarray .int, 2) := by decide +kernel
theorem dMO_init_155 : decode cMO_init 155 = .ok (.putfield 63, 3) := by decide +kernel
theorem dMO_init_158 : decode cMO_init 158 = .ok (.aload_n 0, 1) := by decide +kernel
theorem dMO_init_159 : decode cMO_init 159 = .ok (.sipush 4896, 3) := by decide +kernel
theorem dMO_init_162 : decode cMO_init 162 = .ok (.newarray .boolean, 2) := by decide +kernel
theorem dMO_init_164 : decode cMO_init 164 = .ok (.putfield 66, 3) := by decide +kernel
theorem dMO_init_167 : decode cMO_init 167 = .ok (.aload_n 0, 1) := by decide +kernel
theorem dMO_init_168 : decode cMO_init 168 = .ok (.sipush 6010, 3) := by decide +kernel
theorem dMO_init_171 : decode cMO_init 171 = .ok (.newarray .int, 2) := by decide +kernel
theorem dMO_init_173 : decode cMO_init 173 = .ok (.putfield 69, 3) := by decide +kernel
theorem dMO_init_176 : decode cMO_init 176 = .ok (.aload_n 0, 1) := by decide +kernel
theorem dMO_init_177 : decode cMO_init 177 = .ok (.iconst 4, 1) := by decide +kernel
theorem dMO_init_178 : decode cMO_init 178 = .ok (.newarray .int, 2) := by decide +kernel
theorem dMO_init_180 : decode cMO_init 180 = .ok (.putfield 72, 3) := by decide +kernel
theorem dMO_init_183 : decode cMO_init 183 = .ok (.aload_n 0, 1) := by decide +kernel
theorem dMO_init_184 : decode cMO_init 184 = .ok (.iconst 4, 1) := by decide +kernel
theorem dMO_init_185 : decode cMO_init 185 = .ok (.newarray .int, 2) := by decide +kernel
theorem dMO_init_187 : decode cMO_init 187 = .ok (.putfield 75, 3) := by decide +kernel
theorem dMO_init_190 : decode cMO_init 190 = .ok (.aload_n 0, 1) := by decide +kernel
theorem dMO_init_191 : decode cMO_init 191 = .ok (.sipush 384, 3) := by decide +kernel
theorem dMO_init_194 : decode cMO_init 194 = .ok (.newarray .int, 2) := by decide +kernel
theorem dMO_init_196 : decode cMO_init 196 = .ok (.putfield 78, 3) := by decide +kernel
theorem dMO_init_199 : decode cMO_init 199 = .ok (.aload_n 0, 1) := by decide +kernel
theorem dMO_init_200 : decode cMO_init 200 = .ok (.iload_n 1, 1) := by decide +kernel
theorem dMO_init_201 : decode cMO_init 201 = .ok (.iconst 1, 1) := by decide +kernel
theorem dMO_init_202 : decode cMO_init 202 = .ok (.if_icmp .ge 7, 3) := by decide +kernel
theorem dMO_init_205 : decode cMO_init 205 = .ok (.iconst 1, 1) := by decide +kernel
theorem dMO_init_206 : decode cMO_init 206 = .ok (.goto 15, 3) := by decide +kernel
theorem dMO_init_209 : decode cMO_init 209 = .ok (.iload_n 1, 1) := by decide +kernel
theorem dMO_init_210 : decode cMO_init 210 = .ok (.bipush 8, 2) := by decide +kernel
theorem dMO_init_212 : decode cMO_init 212 = .ok (.if_icmp .le 8, 3) := by decide +kernel
theorem dMO_init_215 : decode cMO_init 215 = .ok (.bipush 8, 2) := by decide +kernel
theorem dMO_init_217 : decode cMO_init 217 = .ok (.goto 4, 3) := by decide +kernel
theorem dMO_init_220 : decode cMO_init 220 = .ok (.iload_n 1, 1) := by decide +kernel
theorem dMO_init_221 : decode cMO_init 221 = .ok (.putfield 81, 3) := by decide +kernel
theorem dMO_init_224 : decode cMO_init 224 = .ok (.aload_n 0, 1) := by decide +kernel
theorem dMO_init_225 : decode cMO_init 225 = .ok (.iconst 1, 1) := by decide +kernel
theorem dMO_init_226 : decode cMO_init 226 = .ok (.iload_n 2, 1) := by decide +kernel
theorem dMO_init_227 : decode cMO_init 227 = .ok (.ifCond .ge 7, 3) := by decide +kernel
theorem dMO_init_230 : decode cMO_init 230 = .ok (.iconst 0, 1) := by decide +kernel
theorem dMO_init_231 : decode cMO_init 231 = .ok (.goto 13, 3) := by decide +kernel
theorem dMO_init_234 : decode cMO_init 234 = .ok (.iload_n 2, 1) := by decide +kernel
theorem dMO_init_235 : decode cMO_init 235 = .ok (.iconst 3, 1) := by decide +kernel
theorem dMO_init_236 : decode cMO_init 236 = .ok (.if_icmp .le 7, 3) := by decide +kernel
theorem dMO_init_239 : decode cMO_init 239 = .ok (.iconst 3, 1) := by decide +kernel
theorem dMO_init_240 : decode cMO_init 240 = .ok (.goto 4, 3) := by decide +kernel
theorem dMO_init_243 : decode cMO_init 243 = .ok (.iload_n 2, 1) := by decide +kernel
theorem dMO_init_244 : decode cMO_init 244 = .ok (.iadd, 1) := by decide +kernel
theorem dMO_init_245 : decode cMO_init 245 = .ok (.putfield 84, 3) := by decide +kernel
theorem dMO_init_248 : decode cMO_init 248 = .ok (.iconst 0, 1) := by decide +kernel
theorem dMO_init_249 : decode cMO_init 249 = .ok (.istore_n 3, 1) := by decide +kernel
theorem dMO_init_250 : decode cMO_init 250 = .ok (.iload_n 3, 1) := by decide +kernel
theorem dMO_init_251 : decode cMO_init 251 = .ok (.bipush 12, 2) := by decide +kernel
theorem dMO_init_253 : decode cMO_init 253 = .ok (.if_icmp .ge 30, 3) := by decide +kernel
theorem dMO_init_256 : decode cMO_init 256 = .ok (.aload_n 0, 1) := by decide +kernel
theorem dMO_init_257 : decode cMO_init 257 = .ok (.getfield 13, 3) := by decide +kernel
theorem dMO_init_260 : decode cMO_init 260 = .ok (.iload_n 3, 1) := by decide +kernel
theorem dMO_init_261 : decode cMO_init 261 = .ok (.iconst 1, 1) := by decide +kernel
theorem dMO_init_262 : decode cMO_init 262 = .ok (.iastore, 1) := by decide +kernel
theorem dMO_init_263 : decode cMO_init 263 = .ok (.aload_n 0, 1) := by decide +kernel
theorem dMO_init_264 : decode cMO_init 264 = .ok (.getfield 17, 3) := by decide +kernel
theorem dMO_init_267 : decode cMO_init 267 = .ok (.iload_n 3, 1) := by decide +kernel
theorem dMO_init_268 : decode cMO_init 268 = .ok (.iconst 1, 1) := by decide +kernel
theorem dMO_init_269 : decode cMO_init 269 = .ok (.iastore, 1) := by decide +kernel
theorem dMO_init_270 : decode cMO_init 270 = .ok (.aload_n 0, 1) := by decide +kernel
theorem dMO_init_271 : decode cMO_init 271 = .ok (.getfield 20, 3) := by decide +kernel
theorem dMO_init_274 : decode cMO_init 274 = .ok (.iload_n 3, 1) := by decide +kernel
theorem dMO_init_275 : decode cMO_init 275 = .ok (.iconst 1, 1) := by decide +kernel
theorem dMO_init_276 : decode cMO_init 276 = .ok (.iastore, 1) := by decide +kernel
theorem dMO_init_277 : decode cMO_init 277 = .ok (.iinc 3 1, 3) := by decide +kernel
theorem dMO_init_280 : decode cMO_init 280 = .ok (.goto (-30), 3) := by decide +kernel
theorem dMO_init_283 : decode cMO_init 283 = .ok (.aload_n 0, 1) := by decide +kernel
theorem dMO_init_284 : decode cMO_init 284 = .ok (.iconst 0, 1) := by decide +kernel
theorem dMO_init_285 : decode cMO_init 285 = .ok (.sipush 1728, 3) := by decide +kernel
theorem dMO_init_288 : decode cMO_init 288 = .ok (.invokevirtual 87, 3) := by decide +kernel
theorem dMO_init_291 : decode cMO_init 291 = .ok (.return_, 1) := by decide +kernel
abbrev cMO_thrown : ByteArray := prog_12_method_2_code
abbrev yMO_thrown : MethodName := ⟨"PacketRowsModel", "thrown", "()I"⟩
abbrev wsMO_thrown : List Cond := .code yMO_thrown cMO_thrown 1 (some .int) :: uU
theorem dMO_thrown_0 : decode cMO_thrown 0 = .ok (.aload_n 0, 1) := by decide +kernel
theorem dMO_thrown_1 : decode cMO_thrown 1 = .ok (.getfield 91, 3) := by decide +kernel
theorem dMO_thrown_4 : decode cMO_thrown 4 = .ok (.ireturn, 1) := by decide +kernel
abbrev cMO_goes : ByteArray := prog_12_method_3_code
abbrev yMO_goes : MethodName := ⟨"PacketRowsModel", "goes", "(ZZ)Z"⟩
abbrev wsMO_goes : List Cond := .code yMO_goes cMO_goes 3 (some .boolean) :: uU
theorem dMO_goes_0 : decode cMO_goes 0 = .ok (.aload_n 0, 1) := by decide +kernel
theorem dMO_goes_1 : decode cMO_goes 1 = .ok (.iload_n 1, 1) := by decide +kernel
theorem dMO_goes_2 : decode cMO_goes 2 = .ok (.ifCond .eq 15, 3) := by decide +kernel
theorem dMO_goes_5 : decode cMO_goes 5 = .ok (.iload_n 2, 1) := by decide +kernel
theorem dMO_goes_6 : decode cMO_goes 6 = .ok (.ifCond .eq 7, 3) := by decide +kernel
theorem dMO_goes_9 : decode cMO_goes 9 = .ok (.iconst 0, 1) := by decide +kernel
theorem dMO_goes_10 : decode cMO_goes 10 = .ok (.goto 8, 3) := by decide +kernel
theorem dMO_goes_13 : decode cMO_goes 13 = .ok (.iconst 2, 1) := by decide +kernel
theorem dMO_goes_14 : decode cMO_goes 14 = .ok (.goto 4, 3) := by decide +kernel
theorem dMO_goes_17 : decode cMO_goes 17 = .ok (.iconst 1, 1) := by decide +kernel
theorem dMO_goes_18 : decode cMO_goes 18 = .ok (.putfield 91, 3) := by decide +kernel
theorem dMO_goes_21 : decode cMO_goes 21 = .ok (.aload_n 0, 1) := by decide +kernel
theorem dMO_goes_22 : decode cMO_goes 22 = .ok (.getfield 91, 3) := by decide +kernel
theorem dMO_goes_25 : decode cMO_goes 25 = .ok (.ifCond .ne 7, 3) := by decide +kernel
theorem dMO_goes_28 : decode cMO_goes 28 = .ok (.iconst 1, 1) := by decide +kernel
theorem dMO_goes_29 : decode cMO_goes 29 = .ok (.goto 4, 3) := by decide +kernel
theorem dMO_goes_32 : decode cMO_goes 32 = .ok (.iconst 0, 1) := by decide +kernel
theorem dMO_goes_33 : decode cMO_goes 33 = .ok (.ireturn, 1) := by decide +kernel
abbrev cMO_in : ByteArray := prog_12_method_4_code
abbrev yMO_in : MethodName := ⟨"PacketRowsModel", "in", "(III)Z"⟩
abbrev wsMO_in : List Cond := .code yMO_in cMO_in 3 (some .boolean) :: uU
theorem dMO_in_0 : decode cMO_in 0 = .ok (.iload_n 0, 1) := by decide +kernel
theorem dMO_in_1 : decode cMO_in 1 = .ok (.iload_n 1, 1) := by decide +kernel
theorem dMO_in_2 : decode cMO_in 2 = .ok (.if_icmp .lt 12, 3) := by decide +kernel
theorem dMO_in_5 : decode cMO_in 5 = .ok (.iload_n 0, 1) := by decide +kernel
theorem dMO_in_6 : decode cMO_in 6 = .ok (.iload_n 2, 1) := by decide +kernel
theorem dMO_in_7 : decode cMO_in 7 = .ok (.if_icmp .gt 7, 3) := by decide +kernel
theorem dMO_in_10 : decode cMO_in 10 = .ok (.iconst 1, 1) := by decide +kernel
theorem dMO_in_11 : decode cMO_in 11 = .ok (.goto 4, 3) := by decide +kernel
theorem dMO_in_14 : decode cMO_in 14 = .ok (.iconst 0, 1) := by decide +kernel
theorem dMO_in_15 : decode cMO_in 15 = .ok (.ireturn, 1) := by decide +kernel
abbrev cMO_forget : ByteArray := prog_12_method_5_code
abbrev yMO_forget : MethodName := ⟨"PacketRowsModel", "forget", "(II)V"⟩
abbrev wsMO_forget : List Cond := .code yMO_forget cMO_forget 4 (none) :: uU
theorem dMO_forget_0 : decode cMO_forget 0 = .ok (.iload_n 1, 1) := by decide +kernel
theorem dMO_forget_1 : decode cMO_forget 1 = .ok (.istore_n 3, 1) := by decide +kernel
theorem dMO_forget_2 : decode cMO_forget 2 = .ok (.iload_n 3, 1) := by decide +kernel
theorem dMO_forget_3 : decode cMO_forget 3 = .ok (.iload_n 2, 1) := by decide +kernel
theorem dMO_forget_4 : decode cMO_forget 4 = .ok (.if_icmp .ge 23, 3) := by decide +kernel
theorem dMO_forget_7 : decode cMO_forget 7 = .ok (.aload_n 0, 1) := by decide +kernel
theorem dMO_forget_8 : decode cMO_forget 8 = .ok (.getfield 32, 3) := by decide +kernel
theorem dMO_forget_11 : decode cMO_forget 11 = .ok (.iload_n 3, 1) := by decide +kernel
theorem dMO_forget_12 : decode cMO_forget 12 = .ok (.iconst 0, 1) := by decide +kernel
theorem dMO_forget_13 : decode cMO_forget 13 = .ok (.iastore, 1) := by decide +kernel
theorem dMO_forget_14 : decode cMO_forget 14 = .ok (.aload_n 0, 1) := by decide +kernel
theorem dMO_forget_15 : decode cMO_forget 15 = .ok (.getfield 35, 3) := by decide +kernel
theorem dMO_forget_18 : decode cMO_forget 18 = .ok (.iload_n 3, 1) := by decide +kernel
theorem dMO_forget_19 : decode cMO_forget 19 = .ok (.iconst (-1), 1) := by decide +kernel
theorem dMO_forget_20 : decode cMO_forget 20 = .ok (.iastore, 1) := by decide +kernel
theorem dMO_forget_21 : decode cMO_forget 21 = .ok (.iinc 3 1, 3) := by decide +kernel
theorem dMO_forget_24 : decode cMO_forget 24 = .ok (.goto (-22), 3) := by decide +kernel
theorem dMO_forget_27 : decode cMO_forget 27 = .ok (.bipush 8, 2) := by decide +kernel
theorem dMO_forget_29 : decode cMO_forget 29 = .ok (.iload_n 1, 1) := by decide +kernel
theorem dMO_forget_30 : decode cMO_forget 30 = .ok (.imul, 1) := by decide +kernel
theorem dMO_forget_31 : decode cMO_forget 31 = .ok (.istore_n 3, 1) := by decide +kernel
theorem dMO_forget_32 : decode cMO_forget 32 = .ok (.iload_n 3, 1) := by decide +kernel
theorem dMO_forget_33 : decode cMO_forget 33 = .ok (.bipush 8, 2) := by decide +kernel
theorem dMO_forget_35 : decode cMO_forget 35 = .ok (.iload_n 2, 1) := by decide +kernel
theorem dMO_forget_36 : decode cMO_forget 36 = .ok (.imul, 1) := by decide +kernel
theorem dMO_forget_37 : decode cMO_forget 37 = .ok (.if_icmp .ge 23, 3) := by decide +kernel
theorem dMO_forget_40 : decode cMO_forget 40 = .ok (.aload_n 0, 1) := by decide +kernel
theorem dMO_forget_41 : decode cMO_forget 41 = .ok (.getfield 38, 3) := by decide +kernel
theorem dMO_forget_44 : decode cMO_forget 44 = .ok (.iload_n 3, 1) := by decide +kernel
theorem dMO_forget_45 : decode cMO_forget 45 = .ok (.iconst 0, 1) := by decide +kernel
theorem dMO_forget_46 : decode cMO_forget 46 = .ok (.iastore, 1) := by decide +kernel
theorem dMO_forget_47 : decode cMO_forget 47 = .ok (.aload_n 0, 1) := by decide +kernel
theorem dMO_forget_48 : decode cMO_forget 48 = .ok (.getfield 41, 3) := by decide +kernel
theorem dMO_forget_51 : decode cMO_forget 51 = .ok (.iload_n 3, 1) := by decide +kernel
theorem dMO_forget_52 : decode cMO_forget 52 = .ok (.iconst 0, 1) := by decide +kernel
theorem dMO_forget_53 : decode cMO_forget 53 = .ok (.iastore, 1) := by decide +kernel
theorem dMO_forget_54 : decode cMO_forget 54 = .ok (.iinc 3 1, 3) := by decide +kernel
theorem dMO_forget_57 : decode cMO_forget 57 = .ok (.goto (-25), 3) := by decide +kernel
theorem dMO_forget_60 : decode cMO_forget 60 = .ok (.return_, 1) := by decide +kernel
abbrev cMO_bands : ByteArray := prog_12_method_6_code
abbrev yMO_bands : MethodName := ⟨"PacketRowsModel", "bands", "(I)I"⟩
abbrev wsMO_bands : List Cond := .code yMO_bands cMO_bands 1 (some .int) :: uU
theorem dMO_bands_0 : decode cMO_bands 0 = .ok (.iload_n 0, 1) := by decide +kernel
theorem dMO_bands_1 : decode cMO_bands 1 = .ok (.iconst 4, 1) := by decide +kernel
theorem dMO_bands_2 : decode cMO_bands 2 = .ok (.irem, 1) := by decide +kernel
theorem dMO_bands_3 : decode cMO_bands 3 = .ok (.ifCond .ne 7, 3) := by decide +kernel
theorem dMO_bands_6 : decode cMO_bands 6 = .ok (.iconst 1, 1) := by decide +kernel
theorem dMO_bands_7 : decode cMO_bands 7 = .ok (.goto 4, 3) := by decide +kernel
theorem dMO_bands_10 : decode cMO_bands 10 = .ok (.iconst 3, 1) := by decide +kernel
theorem dMO_bands_11 : decode cMO_bands 11 = .ok (.ireturn, 1) := by decide +kernel
abbrev cMO_blocks : ByteArray := prog_12_method_7_code
abbrev yMO_blocks : MethodName := ⟨"PacketRowsModel", "blocks", "(I)I"⟩
abbrev wsMO_blocks : List Cond := .code yMO_blocks cMO_blocks 2 (some .int) :: uU
theorem dMO_blocks_0 : decode cMO_blocks 0 = .ok (.aload_n 0, 1) := by decide +kernel
theorem dMO_blocks_1 : decode cMO_blocks 1 = .ok (.getfield 13, 3) := by decide +kernel
theorem dMO_blocks_4 : decode cMO_blocks 4 = .ok (.iload_n 1, 1) := by decide +kernel
theorem dMO_blocks_5 : decode cMO_blocks 5 = .ok (.iaload, 1) := by decide +kernel
theorem dMO_blocks_6 : decode cMO_blocks 6 = .ok (.iload_n 1, 1) := by decide +kernel
theorem dMO_blocks_7 : decode cMO_blocks 7 = .ok (.invokestatic 94, 3) := by decide +kernel
theorem dMO_blocks_10 : decode cMO_blocks 10 = .ok (.imul, 1) := by decide +kernel
theorem dMO_blocks_11 : decode cMO_blocks 11 = .ok (.aload_n 0, 1) := by decide +kernel
theorem dMO_blocks_12 : decode cMO_blocks 12 = .ok (.getfield 17, 3) := by decide +kernel
theorem dMO_blocks_15 : decode cMO_blocks 15 = .ok (.iload_n 1, 1) := by decide +kernel
theorem dMO_blocks_16 : decode cMO_blocks 16 = .ok (.iaload, 1) := by decide +kernel
theorem dMO_blocks_17 : decode cMO_blocks 17 = .ok (.imul, 1) := by decide +kernel
theorem dMO_blocks_18 : decode cMO_blocks 18 = .ok (.aload_n 0, 1) := by decide +kernel
theorem dMO_blocks_19 : decode cMO_blocks 19 = .ok (.getfield 20, 3) := by decide +kernel
theorem dMO_blocks_22 : decode cMO_blocks 22 = .ok (.iload_n 1, 1) := by decide +kernel
theorem dMO_blocks_23 : decode cMO_blocks 23 = .ok (.iaload, 1) := by decide +kernel
theorem dMO_blocks_24 : decode cMO_blocks 24 = .ok (.imul, 1) := by decide +kernel
theorem dMO_blocks_25 : decode cMO_blocks 25 = .ok (.ireturn, 1) := by decide +kernel
abbrev cMO_before : ByteArray := prog_12_method_8_code
abbrev yMO_before : MethodName := ⟨"PacketRowsModel", "before", "(I)I"⟩
abbrev wsMO_before : List Cond := .code yMO_before cMO_before 4 (some .int) :: uU
theorem dMO_before_0 : decode cMO_before 0 = .ok (.iconst 0, 1) := by decide +kernel
theorem dMO_before_1 : decode cMO_before 1 = .ok (.istore_n 2, 1) := by decide +kernel
theorem dMO_before_2 : decode cMO_before 2 = .ok (.iconst 0, 1) := by decide +kernel
theorem dMO_before_3 : decode cMO_before 3 = .ok (.istore_n 3, 1) := by decide +kernel
theorem dMO_before_4 : decode cMO_before 4 = .ok (.iload_n 3, 1) := by decide +kernel
theorem dMO_before_5 : decode cMO_before 5 = .ok (.iload_n 1, 1) := by decide +kernel
theorem dMO_before_6 : decode cMO_before 6 = .ok (.if_icmp .ge 41, 3) := by decide +kernel
theorem dMO_before_9 : decode cMO_before 9 = .ok (.iload_n 3, 1) := by decide +kernel
theorem dMO_before_10 : decode cMO_before 10 = .ok (.iconst 4, 1) := by decide +kernel
theorem dMO_before_11 : decode cMO_before 11 = .ok (.idiv, 1) := by decide +kernel
theorem dMO_before_12 : decode cMO_before 12 = .ok (.aload_n 0, 1) := by decide +kernel
theorem dMO_before_13 : decode cMO_before 13 = .ok (.getfield 7, 3) := by decide +kernel
theorem dMO_before_16 : decode cMO_before 16 = .ok (.if_icmp .ge 23, 3) := by decide +kernel
theorem dMO_before_19 : decode cMO_before 19 = .ok (.iload_n 3, 1) := by decide +kernel
theorem dMO_before_20 : decode cMO_before 20 = .ok (.iconst 4, 1) := by decide +kernel
theorem dMO_before_21 : decode cMO_before 21 = .ok (.irem, 1) := by decide +kernel
theorem dMO_before_22 : decode cMO_before 22 = .ok (.aload_n 0, 1) := by decide +kernel
theorem dMO_before_23 : decode cMO_before 23 = .ok (.getfield 84, 3) := by decide +kernel
theorem dMO_before_26 : decode cMO_before 26 = .ok (.if_icmp .ge 13, 3) := by decide +kernel
theorem dMO_before_29 : decode cMO_before 29 = .ok (.iload_n 2, 1) := by decide +kernel
theorem dMO_before_30 : decode cMO_before 30 = .ok (.aload_n 0, 1) := by decide +kernel
theorem dMO_before_31 : decode cMO_before 31 = .ok (.iload_n 3, 1) := by decide +kernel
theorem dMO_before_32 : decode cMO_before 32 = .ok (.invokevirtual 98, 3) := by decide +kernel
theorem dMO_before_35 : decode cMO_before 35 = .ok (.iadd, 1) := by decide +kernel
theorem dMO_before_36 : decode cMO_before 36 = .ok (.goto 4, 3) := by decide +kernel
theorem dMO_before_39 : decode cMO_before 39 = .ok (.iload_n 2, 1) := by decide +kernel
theorem dMO_before_40 : decode cMO_before 40 = .ok (.istore_n 2, 1) := by decide +kernel
theorem dMO_before_41 : decode cMO_before 41 = .ok (.iinc 3 1, 3) := by decide +kernel
theorem dMO_before_44 : decode cMO_before 44 = .ok (.goto (-40), 3) := by decide +kernel
theorem dMO_before_47 : decode cMO_before 47 = .ok (.iload_n 2, 1) := by decide +kernel
theorem dMO_before_48 : decode cMO_before 48 = .ok (.ireturn, 1) := by decide +kernel
abbrev cMO_component : ByteArray := prog_12_method_9_code
abbrev yMO_component : MethodName := ⟨"PacketRowsModel", "component", "()I"⟩
abbrev wsMO_component : List Cond := .code yMO_component cMO_component 1 (some .int) :: uU
theorem dMO_component_0 : decode cMO_component 0 = .ok (.aload_n 0, 1) := by decide +kernel
theorem dMO_component_1 : decode cMO_component 1 = .ok (.iconst 0, 1) := by decide +kernel
theorem dMO_component_2 : decode cMO_component 2 = .ok (.putfield 91, 3) := by decide +kernel
theorem dMO_component_5 : decode cMO_component 5 = .ok (.aload_n 0, 1) := by decide +kernel
theorem dMO_component_6 : decode cMO_component 6 = .ok (.getfield 7, 3) := by decide +kernel
theorem dMO_component_9 : decode cMO_component 9 = .ok (.iconst 3, 1) := by decide +kernel
theorem dMO_component_10 : decode cMO_component 10 = .ok (.if_icmp .ne 5, 3) := by decide +kernel
theorem dMO_component_13 : decode cMO_component 13 = .ok (.iconst (-1), 1) := by decide +kernel
theorem dMO_component_14 : decode cMO_component 14 = .ok (.ireturn, 1) := by decide +kernel
theorem dMO_component_15 : decode cMO_component 15 = .ok (.aload_n 0, 1) := by decide +kernel
theorem dMO_component_16 : decode cMO_component 16 = .ok (.iconst 0, 1) := by decide +kernel
theorem dMO_component_17 : decode cMO_component 17 = .ok (.putfield 101, 3) := by decide +kernel
theorem dMO_component_20 : decode cMO_component 20 = .ok (.aload_n 0, 1) := by decide +kernel
theorem dMO_component_21 : decode cMO_component 21 = .ok (.dup, 1) := by decide +kernel
theorem dMO_component_22 : decode cMO_component 22 = .ok (.getfield 7, 3) := by decide +kernel
theorem dMO_component_25 : decode cMO_component 25 = .ok (.iconst 1, 1) := by decide +kernel
theorem dMO_component_26 : decode cMO_component 26 = .ok (.iadd, 1) := by decide +kernel
theorem dMO_component_27 : decode cMO_component 27 = .ok (.putfield 7, 3) := by decide +kernel
theorem dMO_component_30 : decode cMO_component 30 = .ok (.aload_n 0, 1) := by decide +kernel
theorem dMO_component_31 : decode cMO_component 31 = .ok (.getfield 7, 3) := by decide +kernel
theorem dMO_component_34 : decode cMO_component 34 = .ok (.iconst 1, 1) := by decide +kernel
theorem dMO_component_35 : decode cMO_component 35 = .ok (.isub, 1) := by decide +kernel
theorem dMO_component_36 : decode cMO_component 36 = .ok (.ireturn, 1) := by decide +kernel
abbrev cMO_grid : ByteArray := prog_12_method_10_code
abbrev yMO_grid : MethodName := ⟨"PacketRowsModel", "grid", "(IIIII)I"⟩
abbrev wsMO_grid : List Cond := .code yMO_grid cMO_grid 9 (some .int) :: uU
theorem dMO_grid_0 : decode cMO_grid 0 = .ok (.iload_n 1, 1) := by decide +kernel
theorem dMO_grid_1 : decode cMO_grid 1 = .ok (.iconst 0, 1) := by decide +kernel
theorem dMO_grid_2 : decode cMO_grid 2 = .ok (.aload_n 0, 1) := by decide +kernel
theorem dMO_grid_3 : decode cMO_grid 3 = .ok (.getfield 7, 3) := by decide +kernel
theorem dMO_grid_6 : decode cMO_grid 6 = .ok (.iconst 1, 1) := by decide +kernel
theorem dMO_grid_7 : decode cMO_grid 7 = .ok (.isub, 1) := by decide +kernel
theorem dMO_grid_8 : decode cMO_grid 8 = .ok (.invokestatic 105, 3) := by decide +kernel
theorem dMO_grid_11 : decode cMO_grid 11 = .ok (.ifCond .eq 21, 3) := by decide +kernel
theorem dMO_grid_14 : decode cMO_grid 14 = .ok (.iload_n 2, 1) := by decide +kernel
theorem dMO_grid_15 : decode cMO_grid 15 = .ok (.iconst 0, 1) := by decide +kernel
theorem dMO_grid_16 : decode cMO_grid 16 = .ok (.aload_n 0, 1) := by decide +kernel
theorem dMO_grid_17 : decode cMO_grid 17 = .ok (.getfield 84, 3) := by decide +kernel
theorem dMO_grid_20 : decode cMO_grid 20 = .ok (.iconst 1, 1) := by decide +kernel
theorem dMO_grid_21 : decode cMO_grid 21 = .ok (.isub, 1) := by decide +kernel
theorem dMO_grid_22 : decode cMO_grid 22 = .ok (.invokestatic 105, 3) := by decide +kernel
theorem dMO_grid_25 : decode cMO_grid 25 = .ok (.ifCond .eq 7, 3) := by decide +kernel
theorem dMO_grid_28 : decode cMO_grid 28 = .ok (.iconst 1, 1) := by decide +kernel
theorem dMO_grid_29 : decode cMO_grid 29 = .ok (.goto 4, 3) := by decide +kernel
theorem dMO_grid_32 : decode cMO_grid 32 = .ok (.iconst 0, 1) := by decide +kernel
theorem dMO_grid_33 : decode cMO_grid 33 = .ok (.istore 6, 2) := by decide +kernel
theorem dMO_grid_35 : decode cMO_grid 35 = .ok (.aload_n 0, 1) := by decide +kernel
theorem dMO_grid_36 : decode cMO_grid 36 = .ok (.iload 6, 2) := by decide +kernel
theorem dMO_grid_38 : decode cMO_grid 38 = .ok (.iload_n 3, 1) := by decide +kernel
theorem dMO_grid_39 : decode cMO_grid 39 = .ok (.iconst 1, 1) := by decide +kernel
theorem dMO_grid_40 : decode cMO_grid 40 = .ok (.iconst 4, 1) := by decide +kernel
theorem dMO_grid_41 : decode cMO_grid 41 = .ok (.invokestatic 105, 3) := by decide +kernel
theorem dMO_grid_44 : decode cMO_grid 44 = .ok (.ifCond .eq 27, 3) := by decide +kernel
theorem dMO_grid_47 : decode cMO_grid 47 = .ok (.iload 4, 2) := by decide +kernel
theorem dMO_grid_49 : decode cMO_grid 49 = .ok (.iconst 1, 1) := by decide +kernel
theorem dMO_grid_50 : decode cMO_grid 50 = .ok (.iconst 4, 1) := by decide +kernel
theorem dMO_grid_51 : decode cMO_grid 51 = .ok (.invokestatic 105, 3) := by decide +kernel
theorem dMO_grid_54 : decode cMO_grid 54 = .ok (.ifCond .eq 17, 3) := by decide +kernel
theorem dMO_grid_57 : decode cMO_grid 57 = .ok (.iload 5, 2) := by decide +kernel
theorem dMO_grid_59 : decode cMO_grid 59 = .ok (.iconst 1, 1) := by decide +kernel
theorem dMO_grid_60 : decode cMO_grid 60 = .ok (.iconst 3, 1) := by decide +kernel
theorem dMO_grid_61 : decode cMO_grid 61 = .ok (.invokestatic 105, 3) := by decide +kernel
theorem dMO_grid_64 : decode cMO_grid 64 = .ok (.ifCond .eq 7, 3) := by decide +kernel
theorem dMO_grid_67 : decode cMO_grid 67 = .ok (.iconst 1, 1) := by decide +kernel
theorem dMO_grid_68 : decode cMO_grid 68 = .ok (.goto 4, 3) := by decide +kernel
theorem dMO_grid_71 : decode cMO_grid 71 = .ok (.iconst 0, 1) := by decide +kernel
theorem dMO_grid_72 : decode cMO_grid 72 = .ok (.invokevirtual 109, 3) := by decide +kernel
theorem dMO_grid_75 : decode cMO_grid 75 = .ok (.ifCond .ne 5, 3) := by decide +kernel
theorem dMO_grid_78 : decode cMO_grid 78 = .ok (.iconst 0, 1) := by decide +kernel
theorem dMO_grid_79 : decode cMO_grid 79 = .ok (.ireturn, 1) := by decide +kernel
theorem dMO_grid_80 : decode cMO_grid 80 = .ok (.iconst 4, 1) := by decide +kernel
theorem dMO_grid_81 : decode cMO_grid 81 = .ok (.iload_n 1, 1) := by decide +kernel
theorem dMO_grid_82 : decode cMO_grid 82 = .ok (.imul, 1) := by decide +kernel
theorem dMO_grid_83 : decode cMO_grid 83 = .ok (.iload_n 2, 1) := by decide +kernel
theorem dMO_grid_84 : decode cMO_grid 84 = .ok (.iadd, 1) := by decide +kernel
theorem dMO_grid_85 : decode cMO_grid 85 = .ok (.istore 7, 2) := by decide +kernel
theorem dMO_grid_87 : decode cMO_grid 87 = .ok (.aload_n 0, 1) := by decide +kernel
theorem dMO_grid_88 : decode cMO_grid 88 = .ok (.bipush 12, 2) := by decide +kernel
theorem dMO_grid_90 : decode cMO_grid 90 = .ok (.invokevirtual 113, 3) := by decide +kernel
theorem dMO_grid_93 : decode cMO_grid 93 = .ok (.aload_n 0, 1) := by decide +kernel
theorem dMO_grid_94 : decode cMO_grid 94 = .ok (.iload 7, 2) := by decide +kernel
theorem dMO_grid_96 : decode cMO_grid 96 = .ok (.invokevirtual 98, 3) := by decide +kernel
theorem dMO_grid_99 : decode cMO_grid 99 = .ok (.isub, 1) := by decide +kernel
theorem dMO_grid_100 : decode cMO_grid 100 = .ok (.iload_n 3, 1) := by decide +kernel
theorem dMO_grid_101 : decode cMO_grid 101 = .ok (.iload 7, 2) := by decide +kernel
theorem dMO_grid_103 : decode cMO_grid 103 = .ok (.invokestatic 94, 3) := by decide +kernel
theorem dMO_grid_106 : decode cMO_grid 106 = .ok (.imul, 1) := by decide +kernel
theorem dMO_grid_107 : decode cMO_grid 107 = .ok (.iload 4, 2) := by decide +kernel
theorem dMO_grid_109 : decode cMO_grid 109 = .ok (.imul, 1) := by decide +kernel
theorem dMO_grid_110 : decode cMO_grid 110 = .ok (.iload 5, 2) := by decide +kernel
theorem dMO_grid_112 : decode cMO_grid 112 = .ok (.imul, 1) := by decide +kernel
theorem dMO_grid_113 : decode cMO_grid 113 = .ok (.iadd, 1) := by decide +kernel
theorem dMO_grid_114 : decode cMO_grid 114 = .ok (.sipush 400, 3) := by decide +kernel
theorem dMO_grid_117 : decode cMO_grid 117 = .ok (.if_icmp .le 5, 3) := by decide +kernel
theorem dMO_grid_120 : decode cMO_grid 120 = .ok (.iconst (-1), 1) := by decide +kernel
theorem dMO_grid_121 : decode cMO_grid 121 = .ok (.ireturn, 1) := by decide +kernel
theorem dMO_grid_122 : decode cMO_grid 122 = .ok (.aload_n 0, 1) := by decide +kernel
theorem dMO_grid_123 : decode cMO_grid 123 = .ok (.iconst 0, 1) := by decide +kernel
theorem dMO_grid_124 : decode cMO_grid 124 = .ok (.putfield 101, 3) := by decide +kernel
theorem dMO_grid_127 : decode cMO_grid 127 = .ok (.aload_n 0, 1) := by decide +kernel
theorem dMO_grid_128 : decode cMO_grid 128 = .ok (.getfield 13, 3) := by decide +kernel
theorem dMO_grid_131 : decode cMO_grid 131 = .ok (.iload 7, 2) := by decide +kernel
theorem dMO_grid_133 : decode cMO_grid 133 = .ok (.iload_n 3, 1) := by decide +kernel
theorem dMO_grid_134 : decode cMO_grid 134 = .ok (.iastore, 1) := by decide +kernel
theorem dMO_grid_135 : decode cMO_grid 135 = .ok (.aload_n 0, 1) := by decide +kernel
theorem dMO_grid_136 : decode cMO_grid 136 = .ok (.getfield 17, 3) := by decide +kernel
theorem dMO_grid_139 : decode cMO_grid 139 = .ok (.iload 7, 2) := by decide +kernel
theorem dMO_grid_141 : decode cMO_grid 141 = .ok (.iload 4, 2) := by decide +kernel
theorem dMO_grid_143 : decode cMO_grid 143 = .ok (.iastore, 1) := by decide +kernel
theorem dMO_grid_144 : decode cMO_grid 144 = .ok (.aload_n 0, 1) := by decide +kernel
theorem dMO_grid_145 : decode cMO_grid 145 = .ok (.getfield 20, 3) := by decide +kernel
theorem dMO_grid_148 : decode cMO_grid 148 = .ok (.iload 7, 2) := by decide +kernel
theorem dMO_grid_150 : decode cMO_grid 150 = .ok (.iload 5, 2) := by decide +kernel
theorem dMO_grid_152 : decode cMO_grid 152 = .ok (.iastore, 1) := by decide +kernel
theorem dMO_grid_153 : decode cMO_grid 153 = .ok (.sipush 144, 3) := by decide +kernel
theorem dMO_grid_156 : decode cMO_grid 156 = .ok (.iload 7, 2) := by decide +kernel
theorem dMO_grid_158 : decode cMO_grid 158 = .ok (.imul, 1) := by decide +kernel
theorem dMO_grid_159 : decode cMO_grid 159 = .ok (.istore 8, 2) := by decide +kernel
theorem dMO_grid_161 : decode cMO_grid 161 = .ok (.iload 8, 2) := by decide +kernel
theorem dMO_grid_163 : decode cMO_grid 163 = .ok (.sipush 144, 3) := by decide +kernel
theorem dMO_grid_166 : decode cMO_grid 166 = .ok (.iload 7, 2) := by decide +kernel
theorem dMO_grid_168 : decode cMO_grid 168 = .ok (.imul, 1) := by decide +kernel
theorem dMO_grid_169 : decode cMO_grid 169 = .ok (.sipush 144, 3) := by decide +kernel
theorem dMO_grid_172 : decode cMO_grid 172 = .ok (.iadd, 1) := by decide +kernel
theorem dMO_grid_173 : decode cMO_grid 173 = .ok (.if_icmp .ge 17, 3) := by decide +kernel
theorem dMO_grid_176 : decode cMO_grid 176 = .ok (.aload_n 0, 1) := by decide +kernel
theorem dMO_grid_177 : decode cMO_grid 177 = .ok (.getfield 23, 3) := by decide +kernel
theorem dMO_grid_180 : decode cMO_grid 180 = .ok (.iload 8, 2) := by decide +kernel
theorem dMO_grid_182 : decode cMO_grid 182 = .ok (.iconst 0, 1) := by decide +kernel
theorem dMO_grid_183 : decode cMO_grid 183 = .ok (.iastore, 1) := by decide +kernel
theorem dMO_grid_184 : decode cMO_grid 184 = .ok (.iinc 8 1, 3) := by decide +kernel
theorem dMO_grid_187 : decode cMO_grid 187 = .ok (.goto (-26), 3) := by decide +kernel
theorem dMO_grid_190 : decode cMO_grid 190 = .ok (.sipush 1152, 3) := by decide +kernel
theorem dMO_grid_193 : decode cMO_grid 193 = .ok (.iload 7, 2) := by decide +kernel
theorem dMO_grid_195 : decode cMO_grid 195 = .ok (.imul, 1) := by decide +kernel
theorem dMO_grid_196 : decode cMO_grid 196 = .ok (.istore 8, 2) := by decide +kernel
theorem dMO_grid_198 : decode cMO_grid 198 = .ok (.iload 8, 2) := by decide +kernel
theorem dMO_grid_200 : decode cMO_grid 200 = .ok (.sipush 1152, 3) := by decide +kernel
theorem dMO_grid_203 : decode cMO_grid 203 = .ok (.iload 7, 2) := by decide +kernel
theorem dMO_grid_205 : decode cMO_grid 205 = .ok (.iconst 1, 1) := by decide +kernel
theorem dMO_grid_206 : decode cMO_grid 206 = .ok (.iadd, 1) := by decide +kernel
theorem dMO_grid_207 : decode cMO_grid 207 = .ok (.imul, 1) := by decide +kernel
theorem dMO_grid_208 : decode cMO_grid 208 = .ok (.if_icmp .ge 25, 3) := by decide +kernel
theorem dMO_grid_211 : decode cMO_grid 211 = .ok (.aload_n 0, 1) := by decide +kernel
theorem dMO_grid_212 : decode cMO_grid 212 = .ok (.getfield 26, 3) := by decide +kernel
theorem dMO_grid_215 : decode cMO_grid 215 = .ok (.iload 8, 2) := by decide +kernel
theorem dMO_grid_217 : decode cMO_grid 217 = .ok (.iconst 0, 1) := by decide +kernel
theorem dMO_grid_218 : decode cMO_grid 218 = .ok (.iastore, 1) := by decide +kernel
theorem dMO_grid_219 : decode cMO_grid 219 = .ok (.aload_n 0, 1) := by decide +kernel
theorem dMO_grid_220 : decode cMO_grid 220 = .ok (.getfield 29, 3) := by decide +kernel
theorem dMO_grid_223 : decode cMO_grid 223 = .ok (.iload 8, 2) := by decide +kernel
theorem dMO_grid_225 : decode cMO_grid 225 = .ok (.iconst 0, 1) := by decide +kernel
theorem dMO_grid_226 : decode cMO_grid 226 = .ok (.iastore, 1) := by decide +kernel
theorem dMO_grid_227 : decode cMO_grid 227 = .ok (.iinc 8 1, 3) := by decide +kernel
theorem dMO_grid_230 : decode cMO_grid 230 = .ok (.goto (-32), 3) := by decide +kernel
theorem dMO_grid_233 : decode cMO_grid 233 = .ok (.aload_n 0, 1) := by decide +kernel
theorem dMO_grid_234 : decode cMO_grid 234 = .ok (.sipush 144, 3) := by decide +kernel
theorem dMO_grid_237 : decode cMO_grid 237 = .ok (.iload 7, 2) := by decide +kernel
theorem dMO_grid_239 : decode cMO_grid 239 = .ok (.imul, 1) := by decide +kernel
theorem dMO_grid_240 : decode cMO_grid 240 = .ok (.sipush 144, 3) := by decide +kernel
theorem dMO_grid_243 : decode cMO_grid 243 = .ok (.iload 7, 2) := by decide +kernel
theorem dMO_grid_245 : decode cMO_grid 245 = .ok (.imul, 1) := by decide +kernel
theorem dMO_grid_246 : decode cMO_grid 246 = .ok (.sipush 144, 3) := by decide +kernel
theorem dMO_grid_249 : decode cMO_grid 249 = .ok (.iadd, 1) := by decide +kernel
theorem dMO_grid_250 : decode cMO_grid 250 = .ok (.invokevirtual 87, 3) := by decide +kernel
theorem dMO_grid_253 : decode cMO_grid 253 = .ok (.aload_n 0, 1) := by decide +kernel
theorem dMO_grid_254 : decode cMO_grid 254 = .ok (.aload_n 0, 1) := by decide +kernel
theorem dMO_grid_255 : decode cMO_grid 255 = .ok (.getfield 116, 3) := by decide +kernel
theorem dMO_grid_258 : decode cMO_grid 258 = .ok (.sipush 144, 3) := by decide +kernel
theorem dMO_grid_261 : decode cMO_grid 261 = .ok (.idiv, 1) := by decide +kernel
theorem dMO_grid_262 : decode cMO_grid 262 = .ok (.iload 7, 2) := by decide +kernel
theorem dMO_grid_264 : decode cMO_grid 264 = .ok (.if_icmp .ne 12, 3) := by decide +kernel
theorem dMO_grid_267 : decode cMO_grid 267 = .ok (.sipush 144, 3) := by decide +kernel
theorem dMO_grid_270 : decode cMO_grid 270 = .ok (.iload 7, 2) := by decide +kernel
theorem dMO_grid_272 : decode cMO_grid 272 = .ok (.imul, 1) := by decide +kernel
theorem dMO_grid_273 : decode cMO_grid 273 = .ok (.goto 7, 3) := by decide +kernel
theorem dMO_grid_276 : decode cMO_grid 276 = .ok (.aload_n 0, 1) := by decide +kernel
theorem dMO_grid_277 : decode cMO_grid 277 = .ok (.getfield 116, 3) := by decide +kernel
theorem dMO_grid_280 : decode cMO_grid 280 = .ok (.putfield 116, 3) := by decide +kernel
theorem dMO_grid_283 : decode cMO_grid 283 = .ok (.iconst 1, 1) := by decide +kernel
theorem dMO_grid_284 : decode cMO_grid 284 = .ok (.ireturn, 1) := by decide +kernel
abbrev cMO_choose : ByteArray := prog_12_method_11_code
abbrev yMO_choose : MethodName := ⟨"PacketRowsModel", "choose", "(IIIII)I"⟩
abbrev wsMO_choose : List Cond := .code yMO_choose cMO_choose 10 (some .int) :: uU
theorem dMO_choose_0 : decode cMO_choose 0 = .ok (.iload_n 1, 1) := by decide +kernel
theorem dMO_choose_1 : decode cMO_choose 1 = .ok (.iconst 0, 1) := by decide +kernel
theorem dMO_choose_2 : decode cMO_choose 2 = .ok (.aload_n 0, 1) := by decide +kernel
theorem dMO_choose_3 : decode cMO_choose 3 = .ok (.getfield 7, 3) := by decide +kernel
theorem dMO_choose_6 : decode cMO_choose 6 = .ok (.iconst 1, 1) := by decide +kernel
theorem dMO_choose_7 : decode cMO_choose 7 = .ok (.isub, 1) := by decide +kernel
theorem dMO_choose_8 : decode cMO_choose 8 = .ok (.invokestatic 105, 3) := by decide +kernel
theorem dMO_choose_11 : decode cMO_choose 11 = .ok (.ifCond .eq 21, 3) := by decide +kernel
theorem dMO_choose_14 : decode cMO_choose 14 = .ok (.iload_n 2, 1) := by decide +kernel
theorem dMO_choose_15 : decode cMO_choose 15 = .ok (.iconst 0, 1) := by decide +kernel
theorem dMO_choose_16 : decode cMO_choose 16 = .ok (.aload_n 0, 1) := by decide +kernel
theorem dMO_choose_17 : decode cMO_choose 17 = .ok (.getfield 84, 3) := by decide +kernel
theorem dMO_choose_20 : decode cMO_choose 20 = .ok (.iconst 1, 1) := by decide +kernel
theorem dMO_choose_21 : decode cMO_choose 21 = .ok (.isub, 1) := by decide +kernel
theorem dMO_choose_22 : decode cMO_choose 22 = .ok (.invokestatic 105, 3) := by decide +kernel
theorem dMO_choose_25 : decode cMO_choose 25 = .ok (.ifCond .eq 7, 3) := by decide +kernel
theorem dMO_choose_28 : decode cMO_choose 28 = .ok (.iconst 1, 1) := by decide +kernel
theorem dMO_choose_29 : decode cMO_choose 29 = .ok (.goto 4, 3) := by decide +kernel
theorem dMO_choose_32 : decode cMO_choose 32 = .ok (.iconst 0, 1) := by decide +kernel
theorem dMO_choose_33 : decode cMO_choose 33 = .ok (.istore 6, 2) := by decide +kernel
theorem dMO_choose_35 : decode cMO_choose 35 = .ok (.iload 6, 2) := by decide +kernel
theorem dMO_choose_37 : decode cMO_choose 37 = .ok (.ifCond .eq 11, 3) := by decide +kernel
theorem dMO_choose_40 : decode cMO_choose 40 = .ok (.iconst 4, 1) := by decide +kernel
theorem dMO_choose_41 : decode cMO_choose 41 = .ok (.iload_n 1, 1) := by decide +kernel
theorem dMO_choose_42 : decode cMO_choose 42 = .ok (.imul, 1) := by decide +kernel
theorem dMO_choose_43 : decode cMO_choose 43 = .ok (.iload_n 2, 1) := by decide +kernel
theorem dMO_choose_44 : decode cMO_choose 44 = .ok (.iadd, 1) := by decide +kernel
theorem dMO_choose_45 : decode cMO_choose 45 = .ok (.goto 4, 3) := by decide +kernel
theorem dMO_choose_48 : decode cMO_choose 48 = .ok (.iconst 0, 1) := by decide +kernel
theorem dMO_choose_49 : decode cMO_choose 49 = .ok (.istore 7, 2) := by decide +kernel
theorem dMO_choose_51 : decode cMO_choose 51 = .ok (.aload_n 0, 1) := by decide +kernel
theorem dMO_choose_52 : decode cMO_choose 52 = .ok (.getfield 17, 3) := by decide +kernel
theorem dMO_choose_55 : decode cMO_choose 55 = .ok (.iload 7, 2) := by decide +kernel
theorem dMO_choose_57 : decode cMO_choose 57 = .ok (.iaload, 1) := by decide +kernel
theorem dMO_choose_58 : decode cMO_choose 58 = .ok (.aload_n 0, 1) := by decide +kernel
theorem dMO_choose_59 : decode cMO_choose 59 = .ok (.getfield 20, 3) := by decide +kernel
theorem dMO_choose_62 : decode cMO_choose 62 = .ok (.iload 7, 2) := by decide +kernel
theorem dMO_choose_64 : decode cMO_choose 64 = .ok (.iaload, 1) := by decide +kernel
theorem dMO_choose_65 : decode cMO_choose 65 = .ok (.imul, 1) := by decide +kernel
theorem dMO_choose_66 : decode cMO_choose 66 = .ok (.istore 8, 2) := by decide +kernel
theorem dMO_choose_68 : decode cMO_choose 68 = .ok (.aload_n 0, 1) := by decide +kernel
theorem dMO_choose_69 : decode cMO_choose 69 = .ok (.iload 6, 2) := by decide +kernel
theorem dMO_choose_71 : decode cMO_choose 71 = .ok (.ifCond .eq 53, 3) := by decide +kernel
theorem dMO_choose_74 : decode cMO_choose 74 = .ok (.iload_n 3, 1) := by decide +kernel
theorem dMO_choose_75 : decode cMO_choose 75 = .ok (.iconst 0, 1) := by decide +kernel
theorem dMO_choose_76 : decode cMO_choose 76 = .ok (.aload_n 0, 1) := by decide +kernel
theorem dMO_choose_77 : decode cMO_choose 77 = .ok (.getfield 13, 3) := by decide +kernel
theorem dMO_choose_80 : decode cMO_choose 80 = .ok (.iload 7, 2) := by decide +kernel
theorem dMO_choose_82 : decode cMO_choose 82 = .ok (.iaload, 1) := by decide +kernel
theorem dMO_choose_83 : decode cMO_choose 83 = .ok (.iconst 1, 1) := by decide +kernel
theorem dMO_choose_84 : decode cMO_choose 84 = .ok (.isub, 1) := by decide +kernel
theorem dMO_choose_85 : decode cMO_choose 85 = .ok (.invokestatic 105, 3) := by decide +kernel
theorem dMO_choose_88 : decode cMO_choose 88 = .ok (.ifCond .eq 36, 3) := by decide +kernel
theorem dMO_choose_91 : decode cMO_choose 91 = .ok (.iload 4, 2) := by decide +kernel
theorem dMO_choose_93 : decode cMO_choose 93 = .ok (.iconst 0, 1) := by decide +kernel
theorem dMO_choose_94 : decode cMO_choose 94 = .ok (.iload 7, 2) := by decide +kernel
theorem dMO_choose_96 : decode cMO_choose 96 = .ok (.invokestatic 94, 3) := by decide +kernel
theorem dMO_choose_99 : decode cMO_choose 99 = .ok (.iconst 1, 1) := by decide +kernel
theorem dMO_choose_100 : decode cMO_choose 100 = .ok (.isub, 1) := by decide +kernel
theorem dMO_choose_101 : decode cMO_choose 101 = .ok (.invokestatic 105, 3) := by decide +kernel
theorem dMO_choose_104 : decode cMO_choose 104 = .ok (.ifCond .eq 20, 3) := by decide +kernel
theorem dMO_choose_107 : decode cMO_choose 107 = .ok (.iload 5, 2) := by decide +kernel
theorem dMO_choose_109 : decode cMO_choose 109 = .ok (.iconst 0, 1) := by decide +kernel
theorem dMO_choose_110 : decode cMO_choose 110 = .ok (.iload 8, 2) := by decide +kernel
theorem dMO_choose_112 : decode cMO_choose 112 = .ok (.iconst 1, 1) := by decide +kernel
theorem dMO_choose_113 : decode cMO_choose 113 = .ok (.isub, 1) := by decide +kernel
theorem dMO_choose_114 : decode cMO_choose 114 = .ok (.invokestatic 105, 3) := by decide +kernel
theorem dMO_choose_117 : decode cMO_choose 117 = .ok (.ifCond .eq 7, 3) := by decide +kernel
theorem dMO_choose_120 : decode cMO_choose 120 = .ok (.iconst 1, 1) := by decide +kernel
theorem dMO_choose_121 : decode cMO_choose 121 = .ok (.goto 4, 3) := by decide +kernel
theorem dMO_choose_124 : decode cMO_choose 124 = .ok (.iconst 0, 1) := by decide +kernel
theorem dMO_choose_125 : decode cMO_choose 125 = .ok (.iconst 1, 1) := by decide +kernel
theorem dMO_choose_126 : decode cMO_choose 126 = .ok (.invokevirtual 109, 3) := by decide +kernel
theorem dMO_choose_129 : decode cMO_choose 129 = .ok (.ifCond .ne 5, 3) := by decide +kernel
theorem dMO_choose_132 : decode cMO_choose 132 = .ok (.iconst 0, 1) := by decide +kernel
theorem dMO_choose_133 : decode cMO_choose 133 = .ok (.ireturn, 1) := by decide +kernel
theorem dMO_choose_134 : decode cMO_choose 134 = .ok (.iload_n 3, 1) := by decide +kernel
theorem dMO_choose_135 : decode cMO_choose 135 = .ok (.iload 7, 2) := by decide +kernel
theorem dMO_choose_137 : decode cMO_choose 137 = .ok (.invokestatic 94, 3) := by decide +kernel
theorem dMO_choose_140 : decode cMO_choose 140 = .ok (.imul, 1) := by decide +kernel
theorem dMO_choose_141 : decode cMO_choose 141 = .ok (.iload 4, 2) := by decide +kernel
theorem dMO_choose_143 : decode cMO_choose 143 = .ok (.iadd, 1) := by decide +kernel
theorem dMO_choose_144 : decode cMO_choose 144 = .ok (.iload 8, 2) := by decide +kernel
theorem dMO_choose_146 : decode cMO_choose 146 = .ok (.imul, 1) := by decide +kernel
theorem dMO_choose_147 : decode cMO_choose 147 = .ok (.iload 5, 2) := by decide +kernel
theorem dMO_choose_149 : decode cMO_choose 149 = .ok (.iadd, 1) := by decide +kernel
theorem dMO_choose_150 : decode cMO_choose 150 = .ok (.istore 9, 2) := by decide +kernel
theorem dMO_choose_152 : decode cMO_choose 152 = .ok (.aload_n 0, 1) := by decide +kernel
theorem dMO_choose_153 : decode cMO_choose 153 = .ok (.sipush 144, 3) := by decide +kernel
theorem dMO_choose_156 : decode cMO_choose 156 = .ok (.iload 7, 2) := by decide +kernel
theorem dMO_choose_158 : decode cMO_choose 158 = .ok (.imul, 1) := by decide +kernel
theorem dMO_choose_159 : decode cMO_choose 159 = .ok (.iload 9, 2) := by decide +kernel
theorem dMO_choose_161 : decode cMO_choose 161 = .ok (.iadd, 1) := by decide +kernel
theorem dMO_choose_162 : decode cMO_choose 162 = .ok (.putfield 116, 3) := by decide +kernel
theorem dMO_choose_165 : decode cMO_choose 165 = .ok (.aload_n 0, 1) := by decide +kernel
theorem dMO_choose_166 : decode cMO_choose 166 = .ok (.iload 7, 2) := by decide +kernel
theorem dMO_choose_168 : decode cMO_choose 168 = .ok (.invokevirtual 113, 3) := by decide +kernel
theorem dMO_choose_171 : decode cMO_choose 171 = .ok (.iload 9, 2) := by decide +kernel
theorem dMO_choose_173 : decode cMO_choose 173 = .ok (.iadd, 1) := by decide +kernel
theorem dMO_choose_174 : decode cMO_choose 174 = .ok (.ireturn, 1) := by decide +kernel
abbrev cMO_passes : ByteArray := prog_12_method_12_code
abbrev yMO_passes : MethodName := ⟨"PacketRowsModel", "passes", "(III)V"⟩
abbrev wsMO_passes : List Cond := .code yMO_passes cMO_passes 4 (none) :: uU
theorem dMO_passes_0 : decode cMO_passes 0 = .ok (.aload_n 0, 1) := by decide +kernel
theorem dMO_passes_1 : decode cMO_passes 1 = .ok (.iload_n 1, 1) := by decide +kernel
theorem dMO_passes_2 : decode cMO_passes 2 = .ok (.iconst 0, 1) := by decide +kernel
theorem dMO_passes_3 : decode cMO_passes 3 = .ok (.aload_n 0, 1) := by decide +kernel
theorem dMO_passes_4 : decode cMO_passes 4 = .ok (.getfield 81, 3) := by decide +kernel
theorem dMO_passes_7 : decode cMO_passes 7 = .ok (.iconst 1, 1) := by decide +kernel
theorem dMO_passes_8 : decode cMO_passes 8 = .ok (.isub, 1) := by decide +kernel
theorem dMO_passes_9 : decode cMO_passes 9 = .ok (.invokestatic 105, 3) := by decide +kernel
theorem dMO_passes_12 : decode cMO_passes 12 = .ok (.iload_n 2, 1) := by decide +kernel
theorem dMO_passes_13 : decode cMO_passes 13 = .ok (.iconst 0, 1) := by decide +kernel
theorem dMO_passes_14 : decode cMO_passes 14 = .ok (.sipush 164, 3) := by decide +kernel
theorem dMO_passes_17 : decode cMO_passes 17 = .ok (.invokestatic 105, 3) := by decide +kernel
theorem dMO_passes_20 : decode cMO_passes 20 = .ok (.ifCond .eq 17, 3) := by decide +kernel
theorem dMO_passes_23 : decode cMO_passes 23 = .ok (.iload_n 3, 1) := by decide +kernel
theorem dMO_passes_24 : decode cMO_passes 24 = .ok (.iconst 0, 1) := by decide +kernel
theorem dMO_passes_25 : decode cMO_passes 25 = .ok (.ldc 119, 2) := by decide +kernel
theorem dMO_passes_27 : decode cMO_passes 27 = .ok (.invokestatic 105, 3) := by decide +kernel
theorem dMO_passes_30 : decode cMO_passes 30 = .ok (.ifCond .eq 7, 3) := by decide +kernel
theorem dMO_passes_33 : decode cMO_passes 33 = .ok (.iconst 1, 1) := by decide +kernel
theorem dMO_passes_34 : decode cMO_passes 34 = .ok (.goto 4, 3) := by decide +kernel
theorem dMO_passes_37 : decode cMO_passes 37 = .ok (.iconst 0, 1) := by decide +kernel
theorem dMO_passes_38 : decode cMO_passes 38 = .ok (.invokevirtual 109, 3) := by decide +kernel
theorem dMO_passes_41 : decode cMO_passes 41 = .ok (.ifCond .eq 46, 3) := by decide +kernel
theorem dMO_passes_44 : decode cMO_passes 44 = .ok (.aload_n 0, 1) := by decide +kernel
theorem dMO_passes_45 : decode cMO_passes 45 = .ok (.iconst 0, 1) := by decide +kernel
theorem dMO_passes_46 : decode cMO_passes 46 = .ok (.putfield 101, 3) := by decide +kernel
theorem dMO_passes_49 : decode cMO_passes 49 = .ok (.aload_n 0, 1) := by decide +kernel
theorem dMO_passes_50 : decode cMO_passes 50 = .ok (.getfield 26, 3) := by decide +kernel
theorem dMO_passes_53 : decode cMO_passes 53 = .ok (.bipush 8, 2) := by decide +kernel
theorem dMO_passes_55 : decode cMO_passes 55 = .ok (.aload_n 0, 1) := by decide +kernel
theorem dMO_passes_56 : decode cMO_passes 56 = .ok (.getfield 116, 3) := by decide +kernel
theorem dMO_passes_59 : decode cMO_passes 59 = .ok (.imul, 1) := by decide +kernel
theorem dMO_passes_60 : decode cMO_passes 60 = .ok (.iload_n 1, 1) := by decide +kernel
theorem dMO_passes_61 : decode cMO_passes 61 = .ok (.iadd, 1) := by decide +kernel
theorem dMO_passes_62 : decode cMO_passes 62 = .ok (.iload_n 2, 1) := by decide +kernel
theorem dMO_passes_63 : decode cMO_passes 63 = .ok (.iastore, 1) := by decide +kernel
theorem dMO_passes_64 : decode cMO_passes 64 = .ok (.aload_n 0, 1) := by decide +kernel
theorem dMO_passes_65 : decode cMO_passes 65 = .ok (.getfield 29, 3) := by decide +kernel
theorem dMO_passes_68 : decode cMO_passes 68 = .ok (.bipush 8, 2) := by decide +kernel
theorem dMO_passes_70 : decode cMO_passes 70 = .ok (.aload_n 0, 1) := by decide +kernel
theorem dMO_passes_71 : decode cMO_passes 71 = .ok (.getfield 116, 3) := by decide +kernel
theorem dMO_passes_74 : decode cMO_passes 74 = .ok (.imul, 1) := by decide +kernel
theorem dMO_passes_75 : decode cMO_passes 75 = .ok (.iload_n 1, 1) := by decide +kernel
theorem dMO_passes_76 : decode cMO_passes 76 = .ok (.iadd, 1) := by decide +kernel
theorem dMO_passes_77 : decode cMO_passes 77 = .ok (.iload_n 2, 1) := by decide +kernel
theorem dMO_passes_78 : decode cMO_passes 78 = .ok (.ifCond .ne 7, 3) := by decide +kernel
theorem dMO_passes_81 : decode cMO_passes 81 = .ok (.iconst 0, 1) := by decide +kernel
theorem dMO_passes_82 : decode cMO_passes 82 = .ok (.goto 4, 3) := by decide +kernel
theorem dMO_passes_85 : decode cMO_passes 85 = .ok (.iload_n 3, 1) := by decide +kernel
theorem dMO_passes_86 : decode cMO_passes 86 = .ok (.iastore, 1) := by decide +kernel
theorem dMO_passes_87 : decode cMO_passes 87 = .ok (.return_, 1) := by decide +kernel
abbrev cMO_zero : ByteArray := prog_12_method_13_code
abbrev yMO_zero : MethodName := ⟨"PacketRowsModel", "zero", "(I)V"⟩
abbrev wsMO_zero : List Cond := .code yMO_zero cMO_zero 2 (none) :: uU
theorem dMO_zero_0 : decode cMO_zero 0 = .ok (.aload_n 0, 1) := by decide +kernel
theorem dMO_zero_1 : decode cMO_zero 1 = .ok (.iload_n 1, 1) := by decide +kernel
theorem dMO_zero_2 : decode cMO_zero 2 = .ok (.iconst 0, 1) := by decide +kernel
theorem dMO_zero_3 : decode cMO_zero 3 = .ok (.bipush 30, 2) := by decide +kernel
theorem dMO_zero_5 : decode cMO_zero 5 = .ok (.invokestatic 105, 3) := by decide +kernel
theorem dMO_zero_8 : decode cMO_zero 8 = .ok (.iconst 1, 1) := by decide +kernel
theorem dMO_zero_9 : decode cMO_zero 9 = .ok (.invokevirtual 109, 3) := by decide +kernel
theorem dMO_zero_12 : decode cMO_zero 12 = .ok (.ifCond .eq 18, 3) := by decide +kernel
theorem dMO_zero_15 : decode cMO_zero 15 = .ok (.aload_n 0, 1) := by decide +kernel
theorem dMO_zero_16 : decode cMO_zero 16 = .ok (.iconst 0, 1) := by decide +kernel
theorem dMO_zero_17 : decode cMO_zero 17 = .ok (.putfield 101, 3) := by decide +kernel
theorem dMO_zero_20 : decode cMO_zero 20 = .ok (.aload_n 0, 1) := by decide +kernel
theorem dMO_zero_21 : decode cMO_zero 21 = .ok (.getfield 23, 3) := by decide +kernel
theorem dMO_zero_24 : decode cMO_zero 24 = .ok (.aload_n 0, 1) := by decide +kernel
theorem dMO_zero_25 : decode cMO_zero 25 = .ok (.getfield 116, 3) := by decide +kernel
theorem dMO_zero_28 : decode cMO_zero 28 = .ok (.iload_n 1, 1) := by decide +kernel
theorem dMO_zero_29 : decode cMO_zero 29 = .ok (.iastore, 1) := by decide +kernel
theorem dMO_zero_30 : decode cMO_zero 30 = .ok (.return_, 1) := by decide +kernel
abbrev cMO_part : ByteArray := prog_12_method_14_code
abbrev yMO_part : MethodName := ⟨"PacketRowsModel", "part", "(IIII)I"⟩
abbrev wsMO_part : List Cond := .code yMO_part cMO_part 5 (some .int) :: uU
theorem dMO_part_0 : decode cMO_part 0 = .ok (.aload_n 0, 1) := by decide +kernel
theorem dMO_part_1 : decode cMO_part 1 = .ok (.iload_n 1, 1) := by decide +kernel
theorem dMO_part_2 : decode cMO_part 2 = .ok (.iconst 0, 1) := by decide +kernel
theorem dMO_part_3 : decode cMO_part 3 = .ok (.iconst 4, 1) := by decide +kernel
theorem dMO_part_4 : decode cMO_part 4 = .ok (.invokestatic 105, 3) := by decide +kernel
theorem dMO_part_7 : decode cMO_part 7 = .ok (.ifCond .eq 36, 3) := by decide +kernel
theorem dMO_part_10 : decode cMO_part 10 = .ok (.iload_n 2, 1) := by decide +kernel
theorem dMO_part_11 : decode cMO_part 11 = .ok (.iconst 1, 1) := by decide +kernel
theorem dMO_part_12 : decode cMO_part 12 = .ok (.bipush 8, 2) := by decide +kernel
theorem dMO_part_14 : decode cMO_part 14 = .ok (.invokestatic 105, 3) := by decide +kernel
theorem dMO_part_17 : decode cMO_part 17 = .ok (.ifCond .eq 26, 3) := by decide +kernel
theorem dMO_part_20 : decode cMO_part 20 = .ok (.iload_n 3, 1) := by decide +kernel
theorem dMO_part_21 : decode cMO_part 21 = .ok (.iconst 1, 1) := by decide +kernel
theorem dMO_part_22 : decode cMO_part 22 = .ok (.iconst 4, 1) := by decide +kernel
theorem dMO_part_23 : decode cMO_part 23 = .ok (.invokestatic 105, 3) := by decide +kernel
theorem dMO_part_26 : decode cMO_part 26 = .ok (.ifCond .eq 17, 3) := by decide +kernel
theorem dMO_part_29 : decode cMO_part 29 = .ok (.iload 4, 2) := by decide +kernel
theorem dMO_part_31 : decode cMO_part 31 = .ok (.iconst 1, 1) := by decide +kernel
theorem dMO_part_32 : decode cMO_part 32 = .ok (.iconst 3, 1) := by decide +kernel
theorem dMO_part_33 : decode cMO_part 33 = .ok (.invokestatic 105, 3) := by decide +kernel
theorem dMO_part_36 : decode cMO_part 36 = .ok (.ifCond .eq 7, 3) := by decide +kernel
theorem dMO_part_39 : decode cMO_part 39 = .ok (.iconst 1, 1) := by decide +kernel
theorem dMO_part_40 : decode cMO_part 40 = .ok (.goto 4, 3) := by decide +kernel
theorem dMO_part_43 : decode cMO_part 43 = .ok (.iconst 0, 1) := by decide +kernel
theorem dMO_part_44 : decode cMO_part 44 = .ok (.iconst 1, 1) := by decide +kernel
theorem dMO_part_45 : decode cMO_part 45 = .ok (.invokevirtual 109, 3) := by decide +kernel
theorem dMO_part_48 : decode cMO_part 48 = .ok (.ifCond .ne 5, 3) := by decide +kernel
theorem dMO_part_51 : decode cMO_part 51 = .ok (.iconst 0, 1) := by decide +kernel
theorem dMO_part_52 : decode cMO_part 52 = .ok (.ireturn, 1) := by decide +kernel
theorem dMO_part_53 : decode cMO_part 53 = .ok (.aload_n 0, 1) := by decide +kernel
theorem dMO_part_54 : decode cMO_part 54 = .ok (.getfield 120, 3) := by decide +kernel
theorem dMO_part_57 : decode cMO_part 57 = .ok (.bipush 6, 2) := by decide +kernel
theorem dMO_part_59 : decode cMO_part 59 = .ok (.if_icmp .ne 5, 3) := by decide +kernel
theorem dMO_part_62 : decode cMO_part 62 = .ok (.iconst (-1), 1) := by decide +kernel
theorem dMO_part_63 : decode cMO_part 63 = .ok (.ireturn, 1) := by decide +kernel
theorem dMO_part_64 : decode cMO_part 64 = .ok (.aload_n 0, 1) := by decide +kernel
theorem dMO_part_65 : decode cMO_part 65 = .ok (.iconst 0, 1) := by decide +kernel
theorem dMO_part_66 : decode cMO_part 66 = .ok (.putfield 101, 3) := by decide +kernel
theorem dMO_part_69 : decode cMO_part 69 = .ok (.aload_n 0, 1) := by decide +kernel
theorem dMO_part_70 : decode cMO_part 70 = .ok (.getfield 44, 3) := by decide +kernel
theorem dMO_part_73 : decode cMO_part 73 = .ok (.iconst 4, 1) := by decide +kernel
theorem dMO_part_74 : decode cMO_part 74 = .ok (.aload_n 0, 1) := by decide +kernel
theorem dMO_part_75 : decode cMO_part 75 = .ok (.getfield 120, 3) := by decide +kernel
theorem dMO_part_78 : decode cMO_part 78 = .ok (.imul, 1) := by decide +kernel
theorem dMO_part_79 : decode cMO_part 79 = .ok (.iload_n 1, 1) := by decide +kernel
theorem dMO_part_80 : decode cMO_part 80 = .ok (.iastore, 1) := by decide +kernel
theorem dMO_part_81 : decode cMO_part 81 = .ok (.aload_n 0, 1) := by decide +kernel
theorem dMO_part_82 : decode cMO_part 82 = .ok (.getfield 44, 3) := by decide +kernel
theorem dMO_part_85 : decode cMO_part 85 = .ok (.iconst 4, 1) := by decide +kernel
theorem dMO_part_86 : decode cMO_part 86 = .ok (.aload_n 0, 1) := by decide +kernel
theorem dMO_part_87 : decode cMO_part 87 = .ok (.getfield 120, 3) := by decide +kernel
theorem dMO_part_90 : decode cMO_part 90 = .ok (.imul, 1) := by decide +kernel
theorem dMO_part_91 : decode cMO_part 91 = .ok (.iconst 1, 1) := by decide +kernel
theorem dMO_part_92 : decode cMO_part 92 = .ok (.iadd, 1) := by decide +kernel
theorem dMO_part_93 : decode cMO_part 93 = .ok (.iload_n 2, 1) := by decide +kernel
theorem dMO_part_94 : decode cMO_part 94 = .ok (.iastore, 1) := by decide +kernel
theorem dMO_part_95 : decode cMO_part 95 = .ok (.aload_n 0, 1) := by decide +kernel
theorem dMO_part_96 : decode cMO_part 96 = .ok (.getfield 44, 3) := by decide +kernel
theorem dMO_part_99 : decode cMO_part 99 = .ok (.iconst 4, 1) := by decide +kernel
theorem dMO_part_100 : decode cMO_part 100 = .ok (.aload_n 0, 1) := by decide +kernel
theorem dMO_part_101 : decode cMO_part 101 = .ok (.getfield 120, 3) := by decide +kernel
theorem dMO_part_104 : decode cMO_part 104 = .ok (.imul, 1) := by decide +kernel
theorem dMO_part_105 : decode cMO_part 105 = .ok (.iconst 2, 1) := by decide +kernel
theorem dMO_part_106 : decode cMO_part 106 = .ok (.iadd, 1) := by decide +kernel
theorem dMO_part_107 : decode cMO_part 107 = .ok (.iload_n 3, 1) := by decide +kernel
theorem dMO_part_108 : decode cMO_part 108 = .ok (.iastore, 1) := by decide +kernel
theorem dMO_part_109 : decode cMO_part 109 = .ok (.aload_n 0, 1) := by decide +kernel
theorem dMO_part_110 : decode cMO_part 110 = .ok (.getfield 44, 3) := by decide +kernel
theorem dMO_part_113 : decode cMO_part 113 = .ok (.iconst 4, 1) := by decide +kernel
theorem dMO_part_114 : decode cMO_part 114 = .ok (.aload_n 0, 1) := by decide +kernel
theorem dMO_part_115 : decode cMO_part 115 = .ok (.getfield 120, 3) := by decide +kernel
theorem dMO_part_118 : decode cMO_part 118 = .ok (.imul, 1) := by decide +kernel
theorem dMO_part_119 : decode cMO_part 119 = .ok (.iconst 3, 1) := by decide +kernel
theorem dMO_part_120 : decode cMO_part 120 = .ok (.iadd, 1) := by decide +kernel
theorem dMO_part_121 : decode cMO_part 121 = .ok (.iload 4, 2) := by decide +kernel
theorem dMO_part_123 : decode cMO_part 123 = .ok (.iastore, 1) := by decide +kernel
theorem dMO_part_124 : decode cMO_part 124 = .ok (.aload_n 0, 1) := by decide +kernel
theorem dMO_part_125 : decode cMO_part 125 = .ok (.dup, 1) := by decide +kernel
theorem dMO_part_126 : decode cMO_part 126 = .ok (.getfield 120, 3) := by decide +kernel
theorem dMO_part_129 : decode cMO_part 129 = .ok (.iconst 1, 1) := by decide +kernel
theorem dMO_part_130 : decode cMO_part 130 = .ok (.iadd, 1) := by decide +kernel
theorem dMO_part_131 : decode cMO_part 131 = .ok (.putfield 120, 3) := by decide +kernel
theorem dMO_part_134 : decode cMO_part 134 = .ok (.aload_n 0, 1) := by decide +kernel
theorem dMO_part_135 : decode cMO_part 135 = .ok (.getfield 120, 3) := by decide +kernel
theorem dMO_part_138 : decode cMO_part 138 = .ok (.ireturn, 1) := by decide +kernel
abbrev cMO_whole : ByteArray := prog_12_method_15_code
abbrev yMO_whole : MethodName := ⟨"PacketRowsModel", "whole", "()I"⟩
abbrev wsMO_whole : List Cond := .code yMO_whole cMO_whole 2 (some .int) :: uU
theorem dMO_whole_0 : decode cMO_whole 0 = .ok (.aload_n 0, 1) := by decide +kernel
theorem dMO_whole_1 : decode cMO_whole 1 = .ok (.iconst 0, 1) := by decide +kernel
theorem dMO_whole_2 : decode cMO_whole 2 = .ok (.putfield 91, 3) := by decide +kernel
theorem dMO_whole_5 : decode cMO_whole 5 = .ok (.aload_n 0, 1) := by decide +kernel
theorem dMO_whole_6 : decode cMO_whole 6 = .ok (.getfield 120, 3) := by decide +kernel
theorem dMO_whole_9 : decode cMO_whole 9 = .ok (.istore_n 1, 1) := by decide +kernel
theorem dMO_whole_10 : decode cMO_whole 10 = .ok (.aload_n 0, 1) := by decide +kernel
theorem dMO_whole_11 : decode cMO_whole 11 = .ok (.iconst 0, 1) := by decide +kernel
theorem dMO_whole_12 : decode cMO_whole 12 = .ok (.putfield 120, 3) := by decide +kernel
theorem dMO_whole_15 : decode cMO_whole 15 = .ok (.aload_n 0, 1) := by decide +kernel
theorem dMO_whole_16 : decode cMO_whole 16 = .ok (.iload_n 1, 1) := by decide +kernel
theorem dMO_whole_17 : decode cMO_whole 17 = .ok (.ifCond .ne 14, 3) := by decide +kernel
theorem dMO_whole_20 : decode cMO_whole 20 = .ok (.aload_n 0, 1) := by decide +kernel
theorem dMO_whole_21 : decode cMO_whole 21 = .ok (.getfield 101, 3) := by decide +kernel
theorem dMO_whole_24 : decode cMO_whole 24 = .ok (.ifCond .eq 7, 3) := by decide +kernel
theorem dMO_whole_27 : decode cMO_whole 27 = .ok (.iconst 1, 1) := by decide +kernel
theorem dMO_whole_28 : decode cMO_whole 28 = .ok (.goto 4, 3) := by decide +kernel
theorem dMO_whole_31 : decode cMO_whole 31 = .ok (.iconst 0, 1) := by decide +kernel
theorem dMO_whole_32 : decode cMO_whole 32 = .ok (.putfield 101, 3) := by decide +kernel
theorem dMO_whole_35 : decode cMO_whole 35 = .ok (.iload_n 1, 1) := by decide +kernel
theorem dMO_whole_36 : decode cMO_whole 36 = .ok (.ireturn, 1) := by decide +kernel
abbrev cMO_letter : ByteArray := prog_12_method_16_code
abbrev yMO_letter : MethodName := ⟨"PacketRowsModel", "letter", "(II)I"⟩
abbrev wsMO_letter : List Cond := .code yMO_letter cMO_letter 2 (some .int) :: uU
theorem dMO_letter_0 : decode cMO_letter 0 = .ok (.iload_n 0, 1) := by decide +kernel
theorem dMO_letter_1 : decode cMO_letter 1 = .ok (.tableswitch 108 0 3 #[31, 33, 52, 80], 31) := by decide +kernel
theorem dMO_letter_32 : decode cMO_letter 32 = .ok (.iload_n 1, 1) := by decide +kernel
theorem dMO_letter_33 : decode cMO_letter 33 = .ok (.ireturn, 1) := by decide +kernel
theorem dMO_letter_34 : decode cMO_letter 34 = .ok (.iload_n 1, 1) := by decide +kernel
theorem dMO_letter_35 : decode cMO_letter 35 = .ok (.ifCond .ne 7, 3) := by decide +kernel
theorem dMO_letter_38 : decode cMO_letter 38 = .ok (.iconst 1, 1) := by decide +kernel
theorem dMO_letter_39 : decode cMO_letter 39 = .ok (.goto 13, 3) := by decide +kernel
theorem dMO_letter_42 : decode cMO_letter 42 = .ok (.iload_n 1, 1) := by decide +kernel
theorem dMO_letter_43 : decode cMO_letter 43 = .ok (.iconst 1, 1) := by decide +kernel
theorem dMO_letter_44 : decode cMO_letter 44 = .ok (.if_icmp .ne 7, 3) := by decide +kernel
theorem dMO_letter_47 : decode cMO_letter 47 = .ok (.iconst 0, 1) := by decide +kernel
theorem dMO_letter_48 : decode cMO_letter 48 = .ok (.goto 4, 3) := by decide +kernel
theorem dMO_letter_51 : decode cMO_letter 51 = .ok (.iload_n 1, 1) := by decide +kernel
theorem dMO_letter_52 : decode cMO_letter 52 = .ok (.ireturn, 1) := by decide +kernel
theorem dMO_letter_53 : decode cMO_letter 53 = .ok (.iload_n 1, 1) := by decide +kernel
theorem dMO_letter_54 : decode cMO_letter 54 = .ok (.ifCond .ne 7, 3) := by decide +kernel
theorem dMO_letter_57 : decode cMO_letter 57 = .ok (.iconst 1, 1) := by decide +kernel
theorem dMO_letter_58 : decode cMO_letter 58 = .ok (.goto 22, 3) := by decide +kernel
theorem dMO_letter_61 : decode cMO_letter 61 = .ok (.iload_n 1, 1) := by decide +kernel
theorem dMO_letter_62 : decode cMO_letter 62 = .ok (.iconst 1, 1) := by decide +kernel
theorem dMO_letter_63 : decode cMO_letter 63 = .ok (.if_icmp .ne 7, 3) := by decide +kernel
theorem dMO_letter_66 : decode cMO_letter 66 = .ok (.iconst 3, 1) := by decide +kernel
theorem dMO_letter_67 : decode cMO_letter 67 = .ok (.goto 13, 3) := by decide +kernel
theorem dMO_letter_70 : decode cMO_letter 70 = .ok (.iload_n 1, 1) := by decide +kernel
theorem dMO_letter_71 : decode cMO_letter 71 = .ok (.iconst 2, 1) := by decide +kernel
theorem dMO_letter_72 : decode cMO_letter 72 = .ok (.if_icmp .ne 7, 3) := by decide +kernel
theorem dMO_letter_75 : decode cMO_letter 75 = .ok (.iconst 2, 1) := by decide +kernel
theorem dMO_letter_76 : decode cMO_letter 76 = .ok (.goto 4, 3) := by decide +kernel
theorem dMO_letter_79 : decode cMO_letter 79 = .ok (.iconst 0, 1) := by decide +kernel
theorem dMO_letter_80 : decode cMO_letter 80 = .ok (.ireturn, 1) := by decide +kernel
theorem dMO_letter_81 : decode cMO_letter 81 = .ok (.iload_n 1, 1) := by decide +kernel
theorem dMO_letter_82 : decode cMO_letter 82 = .ok (.ifCond .ne 7, 3) := by decide +kernel
theorem dMO_letter_85 : decode cMO_letter 85 = .ok (.iconst 3, 1) := by decide +kernel
theorem dMO_letter_86 : decode cMO_letter 86 = .ok (.goto 22, 3) := by decide +kernel
theorem dMO_letter_89 : decode cMO_letter 89 = .ok (.iload_n 1, 1) := by decide +kernel
theorem dMO_letter_90 : decode cMO_letter 90 = .ok (.iconst 1, 1) := by decide +kernel
theorem dMO_letter_91 : decode cMO_letter 91 = .ok (.if_icmp .ne 7, 3) := by decide +kernel
theorem dMO_letter_94 : decode cMO_letter 94 = .ok (.iconst 2, 1) := by decide +kernel
theorem dMO_letter_95 : decode cMO_letter 95 = .ok (.goto 13, 3) := by decide +kernel
theorem dMO_letter_98 : decode cMO_letter 98 = .ok (.iload_n 1, 1) := by decide +kernel
theorem dMO_letter_99 : decode cMO_letter 99 = .ok (.iconst 2, 1) := by decide +kernel
theorem dMO_letter_100 : decode cMO_letter 100 = .ok (.if_icmp .ne 7, 3) := by decide +kernel
theorem dMO_letter_103 : decode cMO_letter 103 = .ok (.iconst 1, 1) := by decide +kernel
theorem dMO_letter_104 : decode cMO_letter 104 = .ok (.goto 4, 3) := by decide +kernel
theorem dMO_letter_107 : decode cMO_letter 107 = .ok (.iconst 0, 1) := by decide +kernel
theorem dMO_letter_108 : decode cMO_letter 108 = .ok (.ireturn, 1) := by decide +kernel
theorem dMO_letter_109 : decode cMO_letter 109 = .ok (.iload_n 1, 1) := by decide +kernel
theorem dMO_letter_110 : decode cMO_letter 110 = .ok (.ifCond .ne 7, 3) := by decide +kernel
theorem dMO_letter_113 : decode cMO_letter 113 = .ok (.iconst 2, 1) := by decide +kernel
theorem dMO_letter_114 : decode cMO_letter 114 = .ok (.goto 22, 3) := by decide +kernel
theorem dMO_letter_117 : decode cMO_letter 117 = .ok (.iload_n 1, 1) := by decide +kernel
theorem dMO_letter_118 : decode cMO_letter 118 = .ok (.iconst 1, 1) := by decide +kernel
theorem dMO_letter_119 : decode cMO_letter 119 = .ok (.if_icmp .ne 7, 3) := by decide +kernel
theorem dMO_letter_122 : decode cMO_letter 122 = .ok (.iconst 3, 1) := by decide +kernel
theorem dMO_letter_123 : decode cMO_letter 123 = .ok (.goto 13, 3) := by decide +kernel
theorem dMO_letter_126 : decode cMO_letter 126 = .ok (.iload_n 1, 1) := by decide +kernel
theorem dMO_letter_127 : decode cMO_letter 127 = .ok (.iconst 2, 1) := by decide +kernel
theorem dMO_letter_128 : decode cMO_letter 128 = .ok (.if_icmp .ne 7, 3) := by decide +kernel
theorem dMO_letter_131 : decode cMO_letter 131 = .ok (.iconst 1, 1) := by decide +kernel
theorem dMO_letter_132 : decode cMO_letter 132 = .ok (.goto 4, 3) := by decide +kernel
theorem dMO_letter_135 : decode cMO_letter 135 = .ok (.iconst 0, 1) := by decide +kernel
theorem dMO_letter_136 : decode cMO_letter 136 = .ok (.ireturn, 1) := by decide +kernel
abbrev cMO_count : ByteArray := prog_12_method_17_code
abbrev yMO_count : MethodName := ⟨"PacketRowsModel", "count", "(IIII)V"⟩
abbrev wsMO_count : List Cond := .code yMO_count cMO_count 10 (none) :: uU
theorem dMO_count_0 : decode cMO_count 0 = .ok (.aload_n 0, 1) := by decide +kernel
theorem dMO_count_1 : decode cMO_count 1 = .ok (.getfield 72, 3) := by decide +kernel
theorem dMO_count_4 : decode cMO_count 4 = .ok (.iconst 0, 1) := by decide +kernel
theorem dMO_count_5 : decode cMO_count 5 = .ok (.iload_n 2, 1) := by decide +kernel
theorem dMO_count_6 : decode cMO_count 6 = .ok (.aload_n 0, 1) := by decide +kernel
theorem dMO_count_7 : decode cMO_count 7 = .ok (.getfield 81, 3) := by decide +kernel
theorem dMO_count_10 : decode cMO_count 10 = .ok (.if_icmp .ge 7, 3) := by decide +kernel
theorem dMO_count_13 : decode cMO_count 13 = .ok (.iload_n 2, 1) := by decide +kernel
theorem dMO_count_14 : decode cMO_count 14 = .ok (.goto 7, 3) := by decide +kernel
theorem dMO_count_17 : decode cMO_count 17 = .ok (.aload_n 0, 1) := by decide +kernel
theorem dMO_count_18 : decode cMO_count 18 = .ok (.getfield 81, 3) := by decide +kernel
theorem dMO_count_21 : decode cMO_count 21 = .ok (.iastore, 1) := by decide +kernel
theorem dMO_count_22 : decode cMO_count 22 = .ok (.aload_n 0, 1) := by decide +kernel
theorem dMO_count_23 : decode cMO_count 23 = .ok (.getfield 72, 3) := by decide +kernel
theorem dMO_count_26 : decode cMO_count 26 = .ok (.iconst 1, 1) := by decide +kernel
theorem dMO_count_27 : decode cMO_count 27 = .ok (.iload_n 3, 1) := by decide +kernel
theorem dMO_count_28 : decode cMO_count 28 = .ok (.aload_n 0, 1) := by decide +kernel
theorem dMO_count_29 : decode cMO_count 29 = .ok (.getfield 84, 3) := by decide +kernel
theorem dMO_count_32 : decode cMO_count 32 = .ok (.if_icmp .ge 7, 3) := by decide +kernel
theorem dMO_count_35 : decode cMO_count 35 = .ok (.iload_n 3, 1) := by decide +kernel
theorem dMO_count_36 : decode cMO_count 36 = .ok (.goto 7, 3) := by decide +kernel
theorem dMO_count_39 : decode cMO_count 39 = .ok (.aload_n 0, 1) := by decide +kernel
theorem dMO_count_40 : decode cMO_count 40 = .ok (.getfield 84, 3) := by decide +kernel
theorem dMO_count_43 : decode cMO_count 43 = .ok (.iastore, 1) := by decide +kernel
theorem dMO_count_44 : decode cMO_count 44 = .ok (.aload_n 0, 1) := by decide +kernel
theorem dMO_count_45 : decode cMO_count 45 = .ok (.getfield 72, 3) := by decide +kernel
theorem dMO_count_48 : decode cMO_count 48 = .ok (.iconst 2, 1) := by decide +kernel
theorem dMO_count_49 : decode cMO_count 49 = .ok (.iload 4, 2) := by decide +kernel
theorem dMO_count_51 : decode cMO_count 51 = .ok (.aload_n 0, 1) := by decide +kernel
theorem dMO_count_52 : decode cMO_count 52 = .ok (.getfield 7, 3) := by decide +kernel
theorem dMO_count_55 : decode cMO_count 55 = .ok (.if_icmp .ge 8, 3) := by decide +kernel
theorem dMO_count_58 : decode cMO_count 58 = .ok (.iload 4, 2) := by decide +kernel
theorem dMO_count_60 : decode cMO_count 60 = .ok (.goto 7, 3) := by decide +kernel
theorem dMO_count_63 : decode cMO_count 63 = .ok (.aload_n 0, 1) := by decide +kernel
theorem dMO_count_64 : decode cMO_count 64 = .ok (.getfield 7, 3) := by decide +kernel
theorem dMO_count_67 : decode cMO_count 67 = .ok (.iastore, 1) := by decide +kernel
theorem dMO_count_68 : decode cMO_count 68 = .ok (.aload_n 0, 1) := by decide +kernel
theorem dMO_count_69 : decode cMO_count 69 = .ok (.getfield 72, 3) := by decide +kernel
theorem dMO_count_72 : decode cMO_count 72 = .ok (.iconst 3, 1) := by decide +kernel
theorem dMO_count_73 : decode cMO_count 73 = .ok (.iconst 4, 1) := by decide +kernel
theorem dMO_count_74 : decode cMO_count 74 = .ok (.iastore, 1) := by decide +kernel
theorem dMO_count_75 : decode cMO_count 75 = .ok (.aload_n 0, 1) := by decide +kernel
theorem dMO_count_76 : decode cMO_count 76 = .ok (.getfield 72, 3) := by decide +kernel
theorem dMO_count_79 : decode cMO_count 79 = .ok (.iconst 0, 1) := by decide +kernel
theorem dMO_count_80 : decode cMO_count 80 = .ok (.iaload, 1) := by decide +kernel
theorem dMO_count_81 : decode cMO_count 81 = .ok (.aload_n 0, 1) := by decide +kernel
theorem dMO_count_82 : decode cMO_count 82 = .ok (.getfield 72, 3) := by decide +kernel
theorem dMO_count_85 : decode cMO_count 85 = .ok (.iconst 1, 1) := by decide +kernel
theorem dMO_count_86 : decode cMO_count 86 = .ok (.iaload, 1) := by decide +kernel
theorem dMO_count_87 : decode cMO_count 87 = .ok (.imul, 1) := by decide +kernel
theorem dMO_count_88 : decode cMO_count 88 = .ok (.aload_n 0, 1) := by decide +kernel
theorem dMO_count_89 : decode cMO_count 89 = .ok (.getfield 72, 3) := by decide +kernel
theorem dMO_count_92 : decode cMO_count 92 = .ok (.iconst 2, 1) := by decide +kernel
theorem dMO_count_93 : decode cMO_count 93 = .ok (.iaload, 1) := by decide +kernel
theorem dMO_count_94 : decode cMO_count 94 = .ok (.imul, 1) := by decide +kernel
theorem dMO_count_95 : decode cMO_count 95 = .ok (.iconst 4, 1) := by decide +kernel
theorem dMO_count_96 : decode cMO_count 96 = .ok (.imul, 1) := by decide +kernel
theorem dMO_count_97 : decode cMO_count 97 = .ok (.istore 5, 2) := by decide +kernel
theorem dMO_count_99 : decode cMO_count 99 = .ok (.iconst 0, 1) := by decide +kernel
theorem dMO_count_100 : decode cMO_count 100 = .ok (.istore 6, 2) := by decide +kernel
theorem dMO_count_102 : decode cMO_count 102 = .ok (.iload 6, 2) := by decide +kernel
theorem dMO_count_104 : decode cMO_count 104 = .ok (.iload 5, 2) := by decide +kernel
theorem dMO_count_106 : decode cMO_count 106 = .ok (.if_icmp .ge 192, 3) := by decide +kernel
theorem dMO_count_109 : decode cMO_count 109 = .ok (.iload 6, 2) := by decide +kernel
theorem dMO_count_111 : decode cMO_count 111 = .ok (.istore 7, 2) := by decide +kernel
theorem dMO_count_113 : decode cMO_count 113 = .ok (.iconst 3, 1) := by decide +kernel
theorem dMO_count_114 : decode cMO_count 114 = .ok (.istore 8, 2) := by decide +kernel
theorem dMO_count_116 : decode cMO_count 116 = .ok (.iload 8, 2) := by decide +kernel
theorem dMO_count_118 : decode cMO_count 118 = .ok (.ifCond .lt 46, 3) := by decide +kernel
theorem dMO_count_121 : decode cMO_count 121 = .ok (.iload_n 1, 1) := by decide +kernel
theorem dMO_count_122 : decode cMO_count 122 = .ok (.iload 8, 2) := by decide +kernel
theorem dMO_count_124 : decode cMO_count 124 = .ok (.invokestatic 123, 3) := by decide +kernel
theorem dMO_count_127 : decode cMO_count 127 = .ok (.istore 9, 2) := by decide +kernel
theorem dMO_count_129 : decode cMO_count 129 = .ok (.aload_n 0, 1) := by decide +kernel
theorem dMO_count_130 : decode cMO_count 130 = .ok (.getfield 75, 3) := by decide +kernel
theorem dMO_count_133 : decode cMO_count 133 = .ok (.iload 9, 2) := by decide +kernel
theorem dMO_count_135 : decode cMO_count 135 = .ok (.iload 7, 2) := by decide +kernel
theorem dMO_count_137 : decode cMO_count 137 = .ok (.aload_n 0, 1) := by decide +kernel
theorem dMO_count_138 : decode cMO_count 138 = .ok (.getfield 72, 3) := by decide +kernel
theorem dMO_count_141 : decode cMO_count 141 = .ok (.iload 9, 2) := by decide +kernel
theorem dMO_count_143 : decode cMO_count 143 = .ok (.iaload, 1) := by decide +kernel
theorem dMO_count_144 : decode cMO_count 144 = .ok (.irem, 1) := by decide +kernel
theorem dMO_count_145 : decode cMO_count 145 = .ok (.iastore, 1) := by decide +kernel
theorem dMO_count_146 : decode cMO_count 146 = .ok (.iload 7, 2) := by decide +kernel
theorem dMO_count_148 : decode cMO_count 148 = .ok (.aload_n 0, 1) := by decide +kernel
theorem dMO_count_149 : decode cMO_count 149 = .ok (.getfield 72, 3) := by decide +kernel
theorem dMO_count_152 : decode cMO_count 152 = .ok (.iload 9, 2) := by decide +kernel
theorem dMO_count_154 : decode cMO_count 154 = .ok (.iaload, 1) := by decide +kernel
theorem dMO_count_155 : decode cMO_count 155 = .ok (.idiv, 1) := by decide +kernel
theorem dMO_count_156 : decode cMO_count 156 = .ok (.istore 7, 2) := by decide +kernel
theorem dMO_count_158 : decode cMO_count 158 = .ok (.iinc 8 (-1), 3) := by decide +kernel
theorem dMO_count_161 : decode cMO_count 161 = .ok (.goto (-45), 3) := by decide +kernel
theorem dMO_count_164 : decode cMO_count 164 = .ok (.aload_n 0, 1) := by decide +kernel
theorem dMO_count_165 : decode cMO_count 165 = .ok (.getfield 75, 3) := by decide +kernel
theorem dMO_count_168 : decode cMO_count 168 = .ok (.iconst 0, 1) := by decide +kernel
theorem dMO_count_169 : decode cMO_count 169 = .ok (.iaload, 1) := by decide +kernel
theorem dMO_count_170 : decode cMO_count 170 = .ok (.iconst 4, 1) := by decide +kernel
theorem dMO_count_171 : decode cMO_count 171 = .ok (.imul, 1) := by decide +kernel
theorem dMO_count_172 : decode cMO_count 172 = .ok (.aload_n 0, 1) := by decide +kernel
theorem dMO_count_173 : decode cMO_count 173 = .ok (.getfield 75, 3) := by decide +kernel
theorem dMO_count_176 : decode cMO_count 176 = .ok (.iconst 1, 1) := by decide +kernel
theorem dMO_count_177 : decode cMO_count 177 = .ok (.iaload, 1) := by decide +kernel
theorem dMO_count_178 : decode cMO_count 178 = .ok (.iadd, 1) := by decide +kernel
theorem dMO_count_179 : decode cMO_count 179 = .ok (.iconst 3, 1) := by decide +kernel
theorem dMO_count_180 : decode cMO_count 180 = .ok (.imul, 1) := by decide +kernel
theorem dMO_count_181 : decode cMO_count 181 = .ok (.aload_n 0, 1) := by decide +kernel
theorem dMO_count_182 : decode cMO_count 182 = .ok (.getfield 75, 3) := by decide +kernel
theorem dMO_count_185 : decode cMO_count 185 = .ok (.iconst 2, 1) := by decide +kernel
theorem dMO_count_186 : decode cMO_count 186 = .ok (.iaload, 1) := by decide +kernel
theorem dMO_count_187 : decode cMO_count 187 = .ok (.iadd, 1) := by decide +kernel
theorem dMO_count_188 : decode cMO_count 188 = .ok (.iconst 4, 1) := by decide +kernel
theorem dMO_count_189 : decode cMO_count 189 = .ok (.imul, 1) := by decide +kernel
theorem dMO_count_190 : decode cMO_count 190 = .ok (.aload_n 0, 1) := by decide +kernel
theorem dMO_count_191 : decode cMO_count 191 = .ok (.getfield 75, 3) := by decide +kernel
theorem dMO_count_194 : decode cMO_count 194 = .ok (.iconst 3, 1) := by decide +kernel
theorem dMO_count_195 : decode cMO_count 195 = .ok (.iaload, 1) := by decide +kernel
theorem dMO_count_196 : decode cMO_count 196 = .ok (.iadd, 1) := by decide +kernel
theorem dMO_count_197 : decode cMO_count 197 = .ok (.istore 8, 2) := by decide +kernel
theorem dMO_count_199 : decode cMO_count 199 = .ok (.aload_n 0, 1) := by decide +kernel
theorem dMO_count_200 : decode cMO_count 200 = .ok (.getfield 75, 3) := by decide +kernel
theorem dMO_count_203 : decode cMO_count 203 = .ok (.iconst 3, 1) := by decide +kernel
theorem dMO_count_204 : decode cMO_count 204 = .ok (.iaload, 1) := by decide +kernel
theorem dMO_count_205 : decode cMO_count 205 = .ok (.aload_n 0, 1) := by decide +kernel
theorem dMO_count_206 : decode cMO_count 206 = .ok (.getfield 13, 3) := by decide +kernel
theorem dMO_count_209 : decode cMO_count 209 = .ok (.iconst 4, 1) := by decide +kernel
theorem dMO_count_210 : decode cMO_count 210 = .ok (.aload_n 0, 1) := by decide +kernel
theorem dMO_count_211 : decode cMO_count 211 = .ok (.getfield 75, 3) := by decide +kernel
theorem dMO_count_214 : decode cMO_count 214 = .ok (.iconst 2, 1) := by decide +kernel
theorem dMO_count_215 : decode cMO_count 215 = .ok (.iaload, 1) := by decide +kernel
theorem dMO_count_216 : decode cMO_count 216 = .ok (.imul, 1) := by decide +kernel
theorem dMO_count_217 : decode cMO_count 217 = .ok (.aload_n 0, 1) := by decide +kernel
theorem dMO_count_218 : decode cMO_count 218 = .ok (.getfield 75, 3) := by decide +kernel
theorem dMO_count_221 : decode cMO_count 221 = .ok (.iconst 1, 1) := by decide +kernel
theorem dMO_count_222 : decode cMO_count 222 = .ok (.iaload, 1) := by decide +kernel
theorem dMO_count_223 : decode cMO_count 223 = .ok (.iadd, 1) := by decide +kernel
theorem dMO_count_224 : decode cMO_count 224 = .ok (.iaload, 1) := by decide +kernel
theorem dMO_count_225 : decode cMO_count 225 = .ok (.if_icmp .ge 67, 3) := by decide +kernel
theorem dMO_count_228 : decode cMO_count 228 = .ok (.aload_n 0, 1) := by decide +kernel
theorem dMO_count_229 : decode cMO_count 229 = .ok (.getfield 50, 3) := by decide +kernel
theorem dMO_count_232 : decode cMO_count 232 = .ok (.iload 8, 2) := by decide +kernel
theorem dMO_count_234 : decode cMO_count 234 = .ok (.baload, 1) := by decide +kernel
theorem dMO_count_235 : decode cMO_count 235 = .ok (.ifCond .ne 57, 3) := by decide +kernel
theorem dMO_count_238 : decode cMO_count 238 = .ok (.aload_n 0, 1) := by decide +kernel
theorem dMO_count_239 : decode cMO_count 239 = .ok (.getfield 50, 3) := by decide +kernel
theorem dMO_count_242 : decode cMO_count 242 = .ok (.iload 8, 2) := by decide +kernel
theorem dMO_count_244 : decode cMO_count 244 = .ok (.iconst 1, 1) := by decide +kernel
theorem dMO_count_245 : decode cMO_count 245 = .ok (.bastore, 1) := by decide +kernel
theorem dMO_count_246 : decode cMO_count 246 = .ok (.iconst 0, 1) := by decide +kernel
theorem dMO_count_247 : decode cMO_count 247 = .ok (.istore 9, 2) := by decide +kernel
theorem dMO_count_249 : decode cMO_count 249 = .ok (.iload 9, 2) := by decide +kernel
theorem dMO_count_251 : decode cMO_count 251 = .ok (.iconst 4, 1) := by decide +kernel
theorem dMO_count_252 : decode cMO_count 252 = .ok (.if_icmp .ge 30, 3) := by decide +kernel
theorem dMO_count_255 : decode cMO_count 255 = .ok (.aload_n 0, 1) := by decide +kernel
theorem dMO_count_256 : decode cMO_count 256 = .ok (.getfield 47, 3) := by decide +kernel
theorem dMO_count_259 : decode cMO_count 259 = .ok (.iconst 4, 1) := by decide +kernel
theorem dMO_count_260 : decode cMO_count 260 = .ok (.aload_n 0, 1) := by decide +kernel
theorem dMO_count_261 : decode cMO_count 261 = .ok (.getfield 127, 3) := by decide +kernel
theorem dMO_count_264 : decode cMO_count 264 = .ok (.imul, 1) := by decide +kernel
theorem dMO_count_265 : decode cMO_count 265 = .ok (.iload 9, 2) := by decide +kernel
theorem dMO_count_267 : decode cMO_count 267 = .ok (.iadd, 1) := by decide +kernel
theorem dMO_count_268 : decode cMO_count 268 = .ok (.aload_n 0, 1) := by decide +kernel
theorem dMO_count_269 : decode cMO_count 269 = .ok (.getfield 75, 3) := by decide +kernel
theorem dMO_count_272 : decode cMO_count 272 = .ok (.iload 9, 2) := by decide +kernel
theorem dMO_count_274 : decode cMO_count 274 = .ok (.iaload, 1) := by decide +kernel
theorem dMO_count_275 : decode cMO_count 275 = .ok (.iastore, 1) := by decide +kernel
theorem dMO_count_276 : decode cMO_count 276 = .ok (.iinc 9 1, 3) := by decide +kernel
theorem dMO_count_279 : decode cMO_count 279 = .ok (.goto (-30), 3) := by decide +kernel
theorem dMO_count_282 : decode cMO_count 282 = .ok (.aload_n 0, 1) := by decide +kernel
theorem dMO_count_283 : decode cMO_count 283 = .ok (.dup, 1) := by decide +kernel
theorem dMO_count_284 : decode cMO_count 284 = .ok (.getfield 127, 3) := by decide +kernel
theorem dMO_count_287 : decode cMO_count 287 = .ok (.iconst 1, 1) := by decide +kernel
theorem dMO_count_288 : decode cMO_count 288 = .ok (.iadd, 1) := by decide +kernel
theorem dMO_count_289 : decode cMO_count 289 = .ok (.putfield 127, 3) := by decide +kernel
theorem dMO_count_292 : decode cMO_count 292 = .ok (.iinc 6 1, 3) := by decide +kernel
theorem dMO_count_295 : decode cMO_count 295 = .ok (.goto (-193), 3) := by decide +kernel
theorem dMO_count_298 : decode cMO_count 298 = .ok (.return_, 1) := by decide +kernel
abbrev cMO_countOut : ByteArray := prog_12_method_18_code
abbrev yMO_countOut : MethodName := ⟨"PacketRowsModel", "countOut", "()V"⟩
abbrev wsMO_countOut : List Cond := .code yMO_countOut cMO_countOut 2 (none) :: uU
theorem dMO_countOut_0 : decode cMO_countOut 0 = .ok (.aload_n 0, 1) := by decide +kernel
theorem dMO_countOut_1 : decode cMO_countOut 1 = .ok (.iconst 0, 1) := by decide +kernel
theorem dMO_countOut_2 : decode cMO_countOut 2 = .ok (.putfield 127, 3) := by decide +kernel
theorem dMO_countOut_5 : decode cMO_countOut 5 = .ok (.iconst 0, 1) := by decide +kernel
theorem dMO_countOut_6 : decode cMO_countOut 6 = .ok (.istore_n 1, 1) := by decide +kernel
theorem dMO_countOut_7 : decode cMO_countOut 7 = .ok (.iload_n 1, 1) := by decide +kernel
theorem dMO_countOut_8 : decode cMO_countOut 8 = .ok (.sipush 384, 3) := by decide +kernel
theorem dMO_countOut_11 : decode cMO_countOut 11 = .ok (.if_icmp .ge 16, 3) := by decide +kernel
theorem dMO_countOut_14 : decode cMO_countOut 14 = .ok (.aload_n 0, 1) := by decide +kernel
theorem dMO_countOut_15 : decode cMO_countOut 15 = .ok (.getfield 50, 3) := by decide +kernel
theorem dMO_countOut_18 : decode cMO_countOut 18 = .ok (.iload_n 1, 1) := by decide +kernel
theorem dMO_countOut_19 : decode cMO_countOut 19 = .ok (.iconst 0, 1) := by decide +kernel
theorem dMO_countOut_20 : decode cMO_countOut 20 = .ok (.bastore, 1) := by decide +kernel
theorem dMO_countOut_21 : decode cMO_countOut 21 = .ok (.iinc 1 1, 3) := by decide +kernel
theorem dMO_countOut_24 : decode cMO_countOut 24 = .ok (.goto (-17), 3) := by decide +kernel
theorem dMO_countOut_27 : decode cMO_countOut 27 = .ok (.iconst 0, 1) := by decide +kernel
theorem dMO_countOut_28 : decode cMO_countOut 28 = .ok (.istore_n 1, 1) := by decide +kernel
theorem dMO_countOut_29 : decode cMO_countOut 29 = .ok (.iload_n 1, 1) := by decide +kernel
theorem dMO_countOut_30 : decode cMO_countOut 30 = .ok (.aload_n 0, 1) := by decide +kernel
theorem dMO_countOut_31 : decode cMO_countOut 31 = .ok (.getfield 120, 3) := by decide +kernel
theorem dMO_countOut_34 : decode cMO_countOut 34 = .ok (.if_icmp .ge 51, 3) := by decide +kernel
theorem dMO_countOut_37 : decode cMO_countOut 37 = .ok (.aload_n 0, 1) := by decide +kernel
theorem dMO_countOut_38 : decode cMO_countOut 38 = .ok (.aload_n 0, 1) := by decide +kernel
theorem dMO_countOut_39 : decode cMO_countOut 39 = .ok (.getfield 44, 3) := by decide +kernel
theorem dMO_countOut_42 : decode cMO_countOut 42 = .ok (.iconst 4, 1) := by decide +kernel
theorem dMO_countOut_43 : decode cMO_countOut 43 = .ok (.iload_n 1, 1) := by decide +kernel
theorem dMO_countOut_44 : decode cMO_countOut 44 = .ok (.imul, 1) := by decide +kernel
theorem dMO_countOut_45 : decode cMO_countOut 45 = .ok (.iaload, 1) := by decide +kernel
theorem dMO_countOut_46 : decode cMO_countOut 46 = .ok (.aload_n 0, 1) := by decide +kernel
theorem dMO_countOut_47 : decode cMO_countOut 47 = .ok (.getfield 44, 3) := by decide +kernel
theorem dMO_countOut_50 : decode cMO_countOut 50 = .ok (.iconst 4, 1) := by decide +kernel
theorem dMO_countOut_51 : decode cMO_countOut 51 = .ok (.iload_n 1, 1) := by decide +kernel
theorem dMO_countOut_52 : decode cMO_countOut 52 = .ok (.imul, 1) := by decide +kernel
theorem dMO_countOut_53 : decode cMO_countOut 53 = .ok (.iconst 1, 1) := by decide +kernel
theorem dMO_countOut_54 : decode cMO_countOut 54 = .ok (.iadd, 1) := by decide +kernel
theorem dMO_countOut_55 : decode cMO_countOut 55 = .ok (.iaload, 1) := by decide +kernel
theorem dMO_countOut_56 : decode cMO_countOut 56 = .ok (.aload_n 0, 1) := by decide +kernel
theorem dMO_countOut_57 : decode cMO_countOut 57 = .ok (.getfield 44, 3) := by decide +kernel
theorem dMO_countOut_60 : decode cMO_countOut 60 = .ok (.iconst 4, 1) := by decide +kernel
theorem dMO_countOut_61 : decode cMO_countOut 61 = .ok (.iload_n 1, 1) := by decide +kernel
theorem dMO_countOut_62 : decode cMO_countOut 62 = .ok (.imul, 1) := by decide +kernel
theorem dMO_countOut_63 : decode cMO_countOut 63 = .ok (.iconst 2, 1) := by decide +kernel
theorem dMO_countOut_64 : decode cMO_countOut 64 = .ok (.iadd, 1) := by decide +kernel
theorem dMO_countOut_65 : decode cMO_countOut 65 = .ok (.iaload, 1) := by decide +kernel
theorem dMO_countOut_66 : decode cMO_countOut 66 = .ok (.aload_n 0, 1) := by decide +kernel
theorem dMO_countOut_67 : decode cMO_countOut 67 = .ok (.getfield 44, 3) := by decide +kernel
theorem dMO_countOut_70 : decode cMO_countOut 70 = .ok (.iconst 4, 1) := by decide +kernel
theorem dMO_countOut_71 : decode cMO_countOut 71 = .ok (.iload_n 1, 1) := by decide +kernel
theorem dMO_countOut_72 : decode cMO_countOut 72 = .ok (.imul, 1) := by decide +kernel
theorem dMO_countOut_73 : decode cMO_countOut 73 = .ok (.iconst 3, 1) := by decide +kernel
theorem dMO_countOut_74 : decode cMO_countOut 74 = .ok (.iadd, 1) := by decide +kernel
theorem dMO_countOut_75 : decode cMO_countOut 75 = .ok (.iaload, 1) := by decide +kernel
theorem dMO_countOut_76 : decode cMO_countOut 76 = .ok (.invokevirtual 130, 3) := by decide +kernel
theorem dMO_countOut_79 : decode cMO_countOut 79 = .ok (.iinc 1 1, 3) := by decide +kernel
theorem dMO_countOut_82 : decode cMO_countOut 82 = .ok (.goto (-53), 3) := by decide +kernel
theorem dMO_countOut_85 : decode cMO_countOut 85 = .ok (.aload_n 0, 1) := by decide +kernel
theorem dMO_countOut_86 : decode cMO_countOut 86 = .ok (.getfield 120, 3) := by decide +kernel
theorem dMO_countOut_89 : decode cMO_countOut 89 = .ok (.ifCond .ne 12, 3) := by decide +kernel
theorem dMO_countOut_92 : decode cMO_countOut 92 = .ok (.aload_n 0, 1) := by decide +kernel
theorem dMO_countOut_93 : decode cMO_countOut 93 = .ok (.iconst 0, 1) := by decide +kernel
theorem dMO_countOut_94 : decode cMO_countOut 94 = .ok (.bipush 8, 2) := by decide +kernel
theorem dMO_countOut_96 : decode cMO_countOut 96 = .ok (.iconst 4, 1) := by decide +kernel
theorem dMO_countOut_97 : decode cMO_countOut 97 = .ok (.iconst 3, 1) := by decide +kernel
theorem dMO_countOut_98 : decode cMO_countOut 98 = .ok (.invokevirtual 130, 3) := by decide +kernel
theorem dMO_countOut_101 : decode cMO_countOut 101 = .ok (.return_, 1) := by decide +kernel
abbrev cMO_packets : ByteArray := prog_12_method_19_code
abbrev yMO_packets : MethodName := ⟨"PacketRowsModel", "packets", "()I"⟩
abbrev wsMO_packets : List Cond := .code yMO_packets cMO_packets 1 (some .int) :: uU
theorem dMO_packets_0 : decode cMO_packets 0 = .ok (.aload_n 0, 1) := by decide +kernel
theorem dMO_packets_1 : decode cMO_packets 1 = .ok (.iconst 0, 1) := by decide +kernel
theorem dMO_packets_2 : decode cMO_packets 2 = .ok (.putfield 91, 3) := by decide +kernel
theorem dMO_packets_5 : decode cMO_packets 5 = .ok (.aload_n 0, 1) := by decide +kernel
theorem dMO_packets_6 : decode cMO_packets 6 = .ok (.invokevirtual 134, 3) := by decide +kernel
theorem dMO_packets_9 : decode cMO_packets 9 = .ok (.aload_n 0, 1) := by decide +kernel
theorem dMO_packets_10 : decode cMO_packets 10 = .ok (.getfield 127, 3) := by decide +kernel
theorem dMO_packets_13 : decode cMO_packets 13 = .ok (.ireturn, 1) := by decide +kernel
abbrev cMO_packet : ByteArray := prog_12_method_20_code
abbrev yMO_packet : MethodName := ⟨"PacketRowsModel", "packet", "(II)I"⟩
abbrev wsMO_packet : List Cond := .code yMO_packet cMO_packet 3 (some .int) :: uU
theorem dMO_packet_0 : decode cMO_packet 0 = .ok (.aload_n 0, 1) := by decide +kernel
theorem dMO_packet_1 : decode cMO_packet 1 = .ok (.invokevirtual 134, 3) := by decide +kernel
theorem dMO_packet_4 : decode cMO_packet 4 = .ok (.aload_n 0, 1) := by decide +kernel
theorem dMO_packet_5 : decode cMO_packet 5 = .ok (.iload_n 1, 1) := by decide +kernel
theorem dMO_packet_6 : decode cMO_packet 6 = .ok (.iconst 0, 1) := by decide +kernel
theorem dMO_packet_7 : decode cMO_packet 7 = .ok (.aload_n 0, 1) := by decide +kernel
theorem dMO_packet_8 : decode cMO_packet 8 = .ok (.getfield 127, 3) := by decide +kernel
theorem dMO_packet_11 : decode cMO_packet 11 = .ok (.iconst 1, 1) := by decide +kernel
theorem dMO_packet_12 : decode cMO_packet 12 = .ok (.isub, 1) := by decide +kernel
theorem dMO_packet_13 : decode cMO_packet 13 = .ok (.invokestatic 105, 3) := by decide +kernel
theorem dMO_packet_16 : decode cMO_packet 16 = .ok (.ifCond .eq 16, 3) := by decide +kernel
theorem dMO_packet_19 : decode cMO_packet 19 = .ok (.iload_n 2, 1) := by decide +kernel
theorem dMO_packet_20 : decode cMO_packet 20 = .ok (.iconst 0, 1) := by decide +kernel
theorem dMO_packet_21 : decode cMO_packet 21 = .ok (.iconst 4, 1) := by decide +kernel
theorem dMO_packet_22 : decode cMO_packet 22 = .ok (.invokestatic 105, 3) := by decide +kernel
theorem dMO_packet_25 : decode cMO_packet 25 = .ok (.ifCond .eq 7, 3) := by decide +kernel
theorem dMO_packet_28 : decode cMO_packet 28 = .ok (.iconst 1, 1) := by decide +kernel
theorem dMO_packet_29 : decode cMO_packet 29 = .ok (.goto 4, 3) := by decide +kernel
theorem dMO_packet_32 : decode cMO_packet 32 = .ok (.iconst 0, 1) := by decide +kernel
theorem dMO_packet_33 : decode cMO_packet 33 = .ok (.iconst 1, 1) := by decide +kernel
theorem dMO_packet_34 : decode cMO_packet 34 = .ok (.invokevirtual 109, 3) := by decide +kernel
theorem dMO_packet_37 : decode cMO_packet 37 = .ok (.ifCond .ne 5, 3) := by decide +kernel
theorem dMO_packet_40 : decode cMO_packet 40 = .ok (.iconst 0, 1) := by decide +kernel
theorem dMO_packet_41 : decode cMO_packet 41 = .ok (.ireturn, 1) := by decide +kernel
theorem dMO_packet_42 : decode cMO_packet 42 = .ok (.iload_n 2, 1) := by decide +kernel
theorem dMO_packet_43 : decode cMO_packet 43 = .ok (.iconst 4, 1) := by decide +kernel
theorem dMO_packet_44 : decode cMO_packet 44 = .ok (.if_icmp .ge 16, 3) := by decide +kernel
theorem dMO_packet_47 : decode cMO_packet 47 = .ok (.aload_n 0, 1) := by decide +kernel
theorem dMO_packet_48 : decode cMO_packet 48 = .ok (.getfield 47, 3) := by decide +kernel
theorem dMO_packet_51 : decode cMO_packet 51 = .ok (.iconst 4, 1) := by decide +kernel
theorem dMO_packet_52 : decode cMO_packet 52 = .ok (.iload_n 1, 1) := by decide +kernel
theorem dMO_packet_53 : decode cMO_packet 53 = .ok (.imul, 1) := by decide +kernel
theorem dMO_packet_54 : decode cMO_packet 54 = .ok (.iload_n 2, 1) := by decide +kernel
theorem dMO_packet_55 : decode cMO_packet 55 = .ok (.iadd, 1) := by decide +kernel
theorem dMO_packet_56 : decode cMO_packet 56 = .ok (.iaload, 1) := by decide +kernel
theorem dMO_packet_57 : decode cMO_packet 57 = .ok (.goto 20, 3) := by decide +kernel
theorem dMO_packet_60 : decode cMO_packet 60 = .ok (.aload_n 0, 1) := by decide +kernel
theorem dMO_packet_61 : decode cMO_packet 61 = .ok (.getfield 101, 3) := by decide +kernel
theorem dMO_packet_64 : decode cMO_packet 64 = .ok (.ifCond .eq 12, 3) := by decide +kernel
theorem dMO_packet_67 : decode cMO_packet 67 = .ok (.aload_n 0, 1) := by decide +kernel
theorem dMO_packet_68 : decode cMO_packet 68 = .ok (.getfield 54, 3) := by decide +kernel
theorem dMO_packet_71 : decode cMO_packet 71 = .ok (.iload_n 1, 1) := by decide +kernel
theorem dMO_packet_72 : decode cMO_packet 72 = .ok (.iaload, 1) := by decide +kernel
theorem dMO_packet_73 : decode cMO_packet 73 = .ok (.goto 4, 3) := by decide +kernel
theorem dMO_packet_76 : decode cMO_packet 76 = .ok (.iconst (-1), 1) := by decide +kernel
theorem dMO_packet_77 : decode cMO_packet 77 = .ok (.ireturn, 1) := by decide +kernel
abbrev cMO_begin : ByteArray := prog_12_method_21_code
abbrev yMO_begin : MethodName := ⟨"PacketRowsModel", "begin", "()V"⟩
abbrev wsMO_begin : List Cond := .code yMO_begin cMO_begin 1 (none) :: uU
theorem dMO_begin_0 : decode cMO_begin 0 = .ok (.aload_n 0, 1) := by decide +kernel
theorem dMO_begin_1 : decode cMO_begin 1 = .ok (.aload_n 0, 1) := by decide +kernel
theorem dMO_begin_2 : decode cMO_begin 2 = .ok (.getfield 137, 3) := by decide +kernel
theorem dMO_begin_5 : decode cMO_begin 5 = .ok (.ifCond .eq 7, 3) := by decide +kernel
theorem dMO_begin_8 : decode cMO_begin 8 = .ok (.iconst 0, 1) := by decide +kernel
theorem dMO_begin_9 : decode cMO_begin 9 = .ok (.goto 5, 3) := by decide +kernel
theorem dMO_begin_12 : decode cMO_begin 12 = .ok (.bipush 8, 2) := by decide +kernel
theorem dMO_begin_14 : decode cMO_begin 14 = .ok (.putfield 140, 3) := by decide +kernel
theorem dMO_begin_17 : decode cMO_begin 17 = .ok (.aload_n 0, 1) := by decide +kernel
theorem dMO_begin_18 : decode cMO_begin 18 = .ok (.iconst 0, 1) := by decide +kernel
theorem dMO_begin_19 : decode cMO_begin 19 = .ok (.putfield 143, 3) := by decide +kernel
theorem dMO_begin_22 : decode cMO_begin 22 = .ok (.aload_n 0, 1) := by decide +kernel
theorem dMO_begin_23 : decode cMO_begin 23 = .ok (.iconst 0, 1) := by decide +kernel
theorem dMO_begin_24 : decode cMO_begin 24 = .ok (.putfield 146, 3) := by decide +kernel
theorem dMO_begin_27 : decode cMO_begin 27 = .ok (.return_, 1) := by decide +kernel
abbrev cMO_push : ByteArray := prog_12_method_22_code
abbrev yMO_push : MethodName := ⟨"PacketRowsModel", "push", "(I)V"⟩
abbrev wsMO_push : List Cond := .code yMO_push cMO_push 2 (none) :: uU
theorem dMO_push_0 : decode cMO_push 0 = .ok (.aload_n 0, 1) := by decide +kernel
theorem dMO_push_1 : decode cMO_push 1 = .ok (.getfield 149, 3) := by decide +kernel
theorem dMO_push_4 : decode cMO_push 4 = .ok (.sipush 6008, 3) := by decide +kernel
theorem dMO_push_7 : decode cMO_push 7 = .ok (.if_icmp .ge 13, 3) := by decide +kernel
theorem dMO_push_10 : decode cMO_push 10 = .ok (.aload_n 0, 1) := by decide +kernel
theorem dMO_push_11 : decode cMO_push 11 = .ok (.getfield 69, 3) := by decide +kernel
theorem dMO_push_14 : decode cMO_push 14 = .ok (.aload_n 0, 1) := by decide +kernel
theorem dMO_push_15 : decode cMO_push 15 = .ok (.getfield 149, 3) := by decide +kernel
theorem dMO_push_18 : decode cMO_push 18 = .ok (.iload_n 1, 1) := by decide +kernel
theorem dMO_push_19 : decode cMO_push 19 = .ok (.iastore, 1) := by decide +kernel
theorem dMO_push_20 : decode cMO_push 20 = .ok (.aload_n 0, 1) := by decide +kernel
theorem dMO_push_21 : decode cMO_push 21 = .ok (.aload_n 0, 1) := by decide +kernel
theorem dMO_push_22 : decode cMO_push 22 = .ok (.getfield 149, 3) := by decide +kernel
theorem dMO_push_25 : decode cMO_push 25 = .ok (.sipush 6008, 3) := by decide +kernel
theorem dMO_push_28 : decode cMO_push 28 = .ok (.if_icmp .ge 12, 3) := by decide +kernel
theorem dMO_push_31 : decode cMO_push 31 = .ok (.aload_n 0, 1) := by decide +kernel
theorem dMO_push_32 : decode cMO_push 32 = .ok (.getfield 149, 3) := by decide +kernel
theorem dMO_push_35 : decode cMO_push 35 = .ok (.iconst 1, 1) := by decide +kernel
theorem dMO_push_36 : decode cMO_push 36 = .ok (.iadd, 1) := by decide +kernel
theorem dMO_push_37 : decode cMO_push 37 = .ok (.goto 7, 3) := by decide +kernel
theorem dMO_push_40 : decode cMO_push 40 = .ok (.aload_n 0, 1) := by decide +kernel
theorem dMO_push_41 : decode cMO_push 41 = .ok (.getfield 149, 3) := by decide +kernel
theorem dMO_push_44 : decode cMO_push 44 = .ok (.putfield 149, 3) := by decide +kernel
theorem dMO_push_47 : decode cMO_push 47 = .ok (.aload_n 0, 1) := by decide +kernel
theorem dMO_push_48 : decode cMO_push 48 = .ok (.iload_n 1, 1) := by decide +kernel
theorem dMO_push_49 : decode cMO_push 49 = .ok (.putfield 146, 3) := by decide +kernel
theorem dMO_push_52 : decode cMO_push 52 = .ok (.return_, 1) := by decide +kernel
abbrev cMO_put : ByteArray := prog_12_method_23_code
abbrev yMO_put : MethodName := ⟨"PacketRowsModel", "put", "(I)V"⟩
abbrev wsMO_put : List Cond := .code yMO_put cMO_put 2 (none) :: uU
theorem dMO_put_0 : decode cMO_put 0 = .ok (.aload_n 0, 1) := by decide +kernel
theorem dMO_put_1 : decode cMO_put 1 = .ok (.dup, 1) := by decide +kernel
theorem dMO_put_2 : decode cMO_put 2 = .ok (.getfield 140, 3) := by decide +kernel
theorem dMO_put_5 : decode cMO_put 5 = .ok (.iconst 1, 1) := by decide +kernel
theorem dMO_put_6 : decode cMO_put 6 = .ok (.isub, 1) := by decide +kernel
theorem dMO_put_7 : decode cMO_put 7 = .ok (.putfield 140, 3) := by decide +kernel
theorem dMO_put_10 : decode cMO_put 10 = .ok (.aload_n 0, 1) := by decide +kernel
theorem dMO_put_11 : decode cMO_put 11 = .ok (.aload_n 0, 1) := by decide +kernel
theorem dMO_put_12 : decode cMO_put 12 = .ok (.getfield 143, 3) := by decide +kernel
theorem dMO_put_15 : decode cMO_put 15 = .ok (.iload_n 1, 1) := by decide +kernel
theorem dMO_put_16 : decode cMO_put 16 = .ok (.aload_n 0, 1) := by decide +kernel
theorem dMO_put_17 : decode cMO_put 17 = .ok (.getfield 140, 3) := by decide +kernel
theorem dMO_put_20 : decode cMO_put 20 = .ok (.ishl, 1) := by decide +kernel
theorem dMO_put_21 : decode cMO_put 21 = .ok (.ior, 1) := by decide +kernel
theorem dMO_put_22 : decode cMO_put 22 = .ok (.putfield 143, 3) := by decide +kernel
theorem dMO_put_25 : decode cMO_put 25 = .ok (.aload_n 0, 1) := by decide +kernel
theorem dMO_put_26 : decode cMO_put 26 = .ok (.getfield 140, 3) := by decide +kernel
theorem dMO_put_29 : decode cMO_put 29 = .ok (.ifCond .ne 37, 3) := by decide +kernel
theorem dMO_put_32 : decode cMO_put 32 = .ok (.aload_n 0, 1) := by decide +kernel
theorem dMO_put_33 : decode cMO_put 33 = .ok (.aload_n 0, 1) := by decide +kernel
theorem dMO_put_34 : decode cMO_put 34 = .ok (.getfield 143, 3) := by decide +kernel
theorem dMO_put_37 : decode cMO_put 37 = .ok (.invokevirtual 152, 3) := by decide +kernel
theorem dMO_put_40 : decode cMO_put 40 = .ok (.aload_n 0, 1) := by decide +kernel
theorem dMO_put_41 : decode cMO_put 41 = .ok (.aload_n 0, 1) := by decide +kernel
theorem dMO_put_42 : decode cMO_put 42 = .ok (.getfield 146, 3) := by decide +kernel
theorem dMO_put_45 : decode cMO_put 45 = .ok (.sipush 255, 3) := by decide +kernel
theorem dMO_put_48 : decode cMO_put 48 = .ok (.if_icmp .ne 8, 3) := by decide +kernel
theorem dMO_put_51 : decode cMO_put 51 = .ok (.bipush 7, 2) := by decide +kernel
theorem dMO_put_53 : decode cMO_put 53 = .ok (.goto 5, 3) := by decide +kernel
theorem dMO_put_56 : decode cMO_put 56 = .ok (.bipush 8, 2) := by decide +kernel
theorem dMO_put_58 : decode cMO_put 58 = .ok (.putfield 140, 3) := by decide +kernel
theorem dMO_put_61 : decode cMO_put 61 = .ok (.aload_n 0, 1) := by decide +kernel
theorem dMO_put_62 : decode cMO_put 62 = .ok (.iconst 0, 1) := by decide +kernel
theorem dMO_put_63 : decode cMO_put 63 = .ok (.putfield 143, 3) := by decide +kernel
theorem dMO_put_66 : decode cMO_put 66 = .ok (.return_, 1) := by decide +kernel
abbrev cMO_fetch : ByteArray := prog_12_method_24_code
abbrev yMO_fetch : MethodName := ⟨"PacketRowsModel", "fetch", "()Z"⟩
abbrev wsMO_fetch : List Cond := .code yMO_fetch cMO_fetch 1 (some .boolean) :: uU
theorem dMO_fetch_0 : decode cMO_fetch 0 = .ok (.aload_n 0, 1) := by decide +kernel
theorem dMO_fetch_1 : decode cMO_fetch 1 = .ok (.getfield 156, 3) := by decide +kernel
theorem dMO_fetch_4 : decode cMO_fetch 4 = .ok (.aload_n 0, 1) := by decide +kernel
theorem dMO_fetch_5 : decode cMO_fetch 5 = .ok (.getfield 159, 3) := by decide +kernel
theorem dMO_fetch_8 : decode cMO_fetch 8 = .ok (.if_icmp .eq 27, 3) := by decide +kernel
theorem dMO_fetch_11 : decode cMO_fetch 11 = .ok (.aload_n 0, 1) := by decide +kernel
theorem dMO_fetch_12 : decode cMO_fetch 12 = .ok (.getfield 146, 3) := by decide +kernel
theorem dMO_fetch_15 : decode cMO_fetch 15 = .ok (.sipush 255, 3) := by decide +kernel
theorem dMO_fetch_18 : decode cMO_fetch 18 = .ok (.if_icmp .ne 39, 3) := by decide +kernel
theorem dMO_fetch_21 : decode cMO_fetch 21 = .ok (.aload_n 0, 1) := by decide +kernel
theorem dMO_fetch_22 : decode cMO_fetch 22 = .ok (.getfield 57, 3) := by decide +kernel
theorem dMO_fetch_25 : decode cMO_fetch 25 = .ok (.aload_n 0, 1) := by decide +kernel
theorem dMO_fetch_26 : decode cMO_fetch 26 = .ok (.getfield 156, 3) := by decide +kernel
theorem dMO_fetch_29 : decode cMO_fetch 29 = .ok (.iaload, 1) := by decide +kernel
theorem dMO_fetch_30 : decode cMO_fetch 30 = .ok (.bipush 127, 2) := by decide +kernel
theorem dMO_fetch_32 : decode cMO_fetch 32 = .ok (.if_icmp .le 25, 3) := by decide +kernel
theorem dMO_fetch_35 : decode cMO_fetch 35 = .ok (.aload_n 0, 1) := by decide +kernel
theorem dMO_fetch_36 : decode cMO_fetch 36 = .ok (.aload_n 0, 1) := by decide +kernel
theorem dMO_fetch_37 : decode cMO_fetch 37 = .ok (.getfield 156, 3) := by decide +kernel
theorem dMO_fetch_40 : decode cMO_fetch 40 = .ok (.aload_n 0, 1) := by decide +kernel
theorem dMO_fetch_41 : decode cMO_fetch 41 = .ok (.getfield 159, 3) := by decide +kernel
theorem dMO_fetch_44 : decode cMO_fetch 44 = .ok (.if_icmp .ne 7, 3) := by decide +kernel
theorem dMO_fetch_47 : decode cMO_fetch 47 = .ok (.iconst 1, 1) := by decide +kernel
theorem dMO_fetch_48 : decode cMO_fetch 48 = .ok (.goto 4, 3) := by decide +kernel
theorem dMO_fetch_51 : decode cMO_fetch 51 = .ok (.iconst 2, 1) := by decide +kernel
theorem dMO_fetch_52 : decode cMO_fetch 52 = .ok (.putfield 162, 3) := by decide +kernel
theorem dMO_fetch_55 : decode cMO_fetch 55 = .ok (.iconst 0, 1) := by decide +kernel
theorem dMO_fetch_56 : decode cMO_fetch 56 = .ok (.ireturn, 1) := by decide +kernel
theorem dMO_fetch_57 : decode cMO_fetch 57 = .ok (.aload_n 0, 1) := by decide +kernel
theorem dMO_fetch_58 : decode cMO_fetch 58 = .ok (.aload_n 0, 1) := by decide +kernel
theorem dMO_fetch_59 : decode cMO_fetch 59 = .ok (.getfield 146, 3) := by decide +kernel
theorem dMO_fetch_62 : decode cMO_fetch 62 = .ok (.sipush 255, 3) := by decide +kernel
theorem dMO_fetch_65 : decode cMO_fetch 65 = .ok (.if_icmp .ne 8, 3) := by decide +kernel
theorem dMO_fetch_68 : decode cMO_fetch 68 = .ok (.bipush 7, 2) := by decide +kernel
theorem dMO_fetch_70 : decode cMO_fetch 70 = .ok (.goto 5, 3) := by decide +kernel
theorem dMO_fetch_73 : decode cMO_fetch 73 = .ok (.bipush 8, 2) := by decide +kernel
theorem dMO_fetch_75 : decode cMO_fetch 75 = .ok (.putfield 140, 3) := by decide +kernel
theorem dMO_fetch_78 : decode cMO_fetch 78 = .ok (.aload_n 0, 1) := by decide +kernel
theorem dMO_fetch_79 : decode cMO_fetch 79 = .ok (.aload_n 0, 1) := by decide +kernel
theorem dMO_fetch_80 : decode cMO_fetch 80 = .ok (.getfield 57, 3) := by decide +kernel
theorem dMO_fetch_83 : decode cMO_fetch 83 = .ok (.aload_n 0, 1) := by decide +kernel
theorem dMO_fetch_84 : decode cMO_fetch 84 = .ok (.getfield 156, 3) := by decide +kernel
theorem dMO_fetch_87 : decode cMO_fetch 87 = .ok (.iaload, 1) := by decide +kernel
theorem dMO_fetch_88 : decode cMO_fetch 88 = .ok (.putfield 143, 3) := by decide +kernel
theorem dMO_fetch_91 : decode cMO_fetch 91 = .ok (.aload_n 0, 1) := by decide +kernel
theorem dMO_fetch_92 : decode cMO_fetch 92 = .ok (.aload_n 0, 1) := by decide +kernel
theorem dMO_fetch_93 : decode cMO_fetch 93 = .ok (.getfield 143, 3) := by decide +kernel
theorem dMO_fetch_96 : decode cMO_fetch 96 = .ok (.putfield 146, 3) := by decide +kernel
theorem dMO_fetch_99 : decode cMO_fetch 99 = .ok (.aload_n 0, 1) := by decide +kernel
theorem dMO_fetch_100 : decode cMO_fetch 100 = .ok (.dup, 1) := by decide +kernel
theorem dMO_fetch_101 : decode cMO_fetch 101 = .ok (.getfield 156, 3) := by decide +kernel
theorem dMO_fetch_104 : decode cMO_fetch 104 = .ok (.iconst 1, 1) := by decide +kernel
theorem dMO_fetch_105 : decode cMO_fetch 105 = .ok (.iadd, 1) := by decide +kernel
theorem dMO_fetch_106 : decode cMO_fetch 106 = .ok (.putfield 156, 3) := by decide +kernel
theorem dMO_fetch_109 : decode cMO_fetch 109 = .ok (.iconst 1, 1) := by decide +kernel
theorem dMO_fetch_110 : decode cMO_fetch 110 = .ok (.ireturn, 1) := by decide +kernel
abbrev cMO_get : ByteArray := prog_12_method_25_code
abbrev yMO_get : MethodName := ⟨"PacketRowsModel", "get", "()I"⟩
abbrev wsMO_get : List Cond := .code yMO_get cMO_get 1 (some .int) :: uU
theorem dMO_get_0 : decode cMO_get 0 = .ok (.aload_n 0, 1) := by decide +kernel
theorem dMO_get_1 : decode cMO_get 1 = .ok (.getfield 162, 3) := by decide +kernel
theorem dMO_get_4 : decode cMO_get 4 = .ok (.ifCond .ne 17, 3) := by decide +kernel
theorem dMO_get_7 : decode cMO_get 7 = .ok (.aload_n 0, 1) := by decide +kernel
theorem dMO_get_8 : decode cMO_get 8 = .ok (.getfield 140, 3) := by decide +kernel
theorem dMO_get_11 : decode cMO_get 11 = .ok (.ifCond .ne 12, 3) := by decide +kernel
theorem dMO_get_14 : decode cMO_get 14 = .ok (.aload_n 0, 1) := by decide +kernel
theorem dMO_get_15 : decode cMO_get 15 = .ok (.invokevirtual 165, 3) := by decide +kernel
theorem dMO_get_18 : decode cMO_get 18 = .ok (.ifCond .ne 5, 3) := by decide +kernel
theorem dMO_get_21 : decode cMO_get 21 = .ok (.iconst 0, 1) := by decide +kernel
theorem dMO_get_22 : decode cMO_get 22 = .ok (.ireturn, 1) := by decide +kernel
theorem dMO_get_23 : decode cMO_get 23 = .ok (.aload_n 0, 1) := by decide +kernel
theorem dMO_get_24 : decode cMO_get 24 = .ok (.dup, 1) := by decide +kernel
theorem dMO_get_25 : decode cMO_get 25 = .ok (.getfield 140, 3) := by decide +kernel
theorem dMO_get_28 : decode cMO_get 28 = .ok (.iconst 1, 1) := by decide +kernel
theorem dMO_get_29 : decode cMO_get 29 = .ok (.isub, 1) := by decide +kernel
theorem dMO_get_30 : decode cMO_get 30 = .ok (.putfield 140, 3) := by decide +kernel
theorem dMO_get_33 : decode cMO_get 33 = .ok (.aload_n 0, 1) := by decide +kernel
theorem dMO_get_34 : decode cMO_get 34 = .ok (.getfield 143, 3) := by decide +kernel
theorem dMO_get_37 : decode cMO_get 37 = .ok (.aload_n 0, 1) := by decide +kernel
theorem dMO_get_38 : decode cMO_get 38 = .ok (.getfield 140, 3) := by decide +kernel
theorem dMO_get_41 : decode cMO_get 41 = .ok (.ishr, 1) := by decide +kernel
theorem dMO_get_42 : decode cMO_get 42 = .ok (.iconst 1, 1) := by decide +kernel
theorem dMO_get_43 : decode cMO_get 43 = .ok (.iand, 1) := by decide +kernel
theorem dMO_get_44 : decode cMO_get 44 = .ok (.ireturn, 1) := by decide +kernel
abbrev cMO_bit : ByteArray := prog_12_method_26_code
abbrev yMO_bit : MethodName := ⟨"PacketRowsModel", "bit", "(I)I"⟩
abbrev wsMO_bit : List Cond := .code yMO_bit cMO_bit 2 (some .int) :: uU
theorem dMO_bit_0 : decode cMO_bit 0 = .ok (.aload_n 0, 1) := by decide +kernel
theorem dMO_bit_1 : decode cMO_bit 1 = .ok (.getfield 137, 3) := by decide +kernel
theorem dMO_bit_4 : decode cMO_bit 4 = .ok (.ifCond .eq 8, 3) := by decide +kernel
theorem dMO_bit_7 : decode cMO_bit 7 = .ok (.aload_n 0, 1) := by decide +kernel
theorem dMO_bit_8 : decode cMO_bit 8 = .ok (.invokevirtual 169, 3) := by decide +kernel
theorem dMO_bit_11 : decode cMO_bit 11 = .ok (.ireturn, 1) := by decide +kernel
theorem dMO_bit_12 : decode cMO_bit 12 = .ok (.aload_n 0, 1) := by decide +kernel
theorem dMO_bit_13 : decode cMO_bit 13 = .ok (.iload_n 1, 1) := by decide +kernel
theorem dMO_bit_14 : decode cMO_bit 14 = .ok (.invokevirtual 173, 3) := by decide +kernel
theorem dMO_bit_17 : decode cMO_bit 17 = .ok (.iload_n 1, 1) := by decide +kernel
theorem dMO_bit_18 : decode cMO_bit 18 = .ok (.ireturn, 1) := by decide +kernel
abbrev cMO_bits : ByteArray := prog_12_method_27_code
abbrev yMO_bits : MethodName := ⟨"PacketRowsModel", "bits", "(II)I"⟩
abbrev wsMO_bits : List Cond := .code yMO_bits cMO_bits 5 (some .int) :: uU
theorem dMO_bits_0 : decode cMO_bits 0 = .ok (.iconst 0, 1) := by decide +kernel
theorem dMO_bits_1 : decode cMO_bits 1 = .ok (.istore_n 3, 1) := by decide +kernel
theorem dMO_bits_2 : decode cMO_bits 2 = .ok (.iload_n 1, 1) := by decide +kernel
theorem dMO_bits_3 : decode cMO_bits 3 = .ok (.iconst 1, 1) := by decide +kernel
theorem dMO_bits_4 : decode cMO_bits 4 = .ok (.isub, 1) := by decide +kernel
theorem dMO_bits_5 : decode cMO_bits 5 = .ok (.istore 4, 2) := by decide +kernel
theorem dMO_bits_7 : decode cMO_bits 7 = .ok (.iload 4, 2) := by decide +kernel
theorem dMO_bits_9 : decode cMO_bits 9 = .ok (.ifCond .lt 24, 3) := by decide +kernel
theorem dMO_bits_12 : decode cMO_bits 12 = .ok (.iload_n 3, 1) := by decide +kernel
theorem dMO_bits_13 : decode cMO_bits 13 = .ok (.iconst 1, 1) := by decide +kernel
theorem dMO_bits_14 : decode cMO_bits 14 = .ok (.ishl, 1) := by decide +kernel
theorem dMO_bits_15 : decode cMO_bits 15 = .ok (.aload_n 0, 1) := by decide +kernel
theorem dMO_bits_16 : decode cMO_bits 16 = .ok (.iload_n 2, 1) := by decide +kernel
theorem dMO_bits_17 : decode cMO_bits 17 = .ok (.iload 4, 2) := by decide +kernel
theorem dMO_bits_19 : decode cMO_bits 19 = .ok (.ishr, 1) := by decide +kernel
theorem dMO_bits_20 : decode cMO_bits 20 = .ok (.iconst 1, 1) := by decide +kernel
theorem dMO_bits_21 : decode cMO_bits 21 = .ok (.iand, 1) := by decide +kernel
theorem dMO_bits_22 : decode cMO_bits 22 = .ok (.invokevirtual 176, 3) := by decide +kernel
theorem dMO_bits_25 : decode cMO_bits 25 = .ok (.ior, 1) := by decide +kernel
theorem dMO_bits_26 : decode cMO_bits 26 = .ok (.istore_n 3, 1) := by decide +kernel
theorem dMO_bits_27 : decode cMO_bits 27 = .ok (.iinc 4 (-1), 3) := by decide +kernel
theorem dMO_bits_30 : decode cMO_bits 30 = .ok (.goto (-23), 3) := by decide +kernel
theorem dMO_bits_33 : decode cMO_bits 33 = .ok (.iload_n 3, 1) := by decide +kernel
theorem dMO_bits_34 : decode cMO_bits 34 = .ok (.ireturn, 1) := by decide +kernel
abbrev cMO_finish : ByteArray := prog_12_method_28_code
abbrev yMO_finish : MethodName := ⟨"PacketRowsModel", "finish", "()V"⟩
abbrev wsMO_finish : List Cond := .code yMO_finish cMO_finish 2 (none) :: uU
theorem dMO_finish_0 : decode cMO_finish 0 = .ok (.aload_n 0, 1) := by decide +kernel
theorem dMO_finish_1 : decode cMO_finish 1 = .ok (.getfield 137, 3) := by decide +kernel
theorem dMO_finish_4 : decode cMO_finish 4 = .ok (.ifCond .eq 44, 3) := by decide +kernel
theorem dMO_finish_7 : decode cMO_finish 7 = .ok (.aload_n 0, 1) := by decide +kernel
theorem dMO_finish_8 : decode cMO_finish 8 = .ok (.iconst 0, 1) := by decide +kernel
theorem dMO_finish_9 : decode cMO_finish 9 = .ok (.putfield 140, 3) := by decide +kernel
theorem dMO_finish_12 : decode cMO_finish 12 = .ok (.aload_n 0, 1) := by decide +kernel
theorem dMO_finish_13 : decode cMO_finish 13 = .ok (.getfield 146, 3) := by decide +kernel
theorem dMO_finish_16 : decode cMO_finish 16 = .ok (.sipush 255, 3) := by decide +kernel
theorem dMO_finish_19 : decode cMO_finish 19 = .ok (.if_icmp .ne 21, 3) := by decide +kernel
theorem dMO_finish_22 : decode cMO_finish 22 = .ok (.aload_n 0, 1) := by decide +kernel
theorem dMO_finish_23 : decode cMO_finish 23 = .ok (.getfield 162, 3) := by decide +kernel
theorem dMO_finish_26 : decode cMO_finish 26 = .ok (.ifCond .ne 14, 3) := by decide +kernel
theorem dMO_finish_29 : decode cMO_finish 29 = .ok (.aload_n 0, 1) := by decide +kernel
theorem dMO_finish_30 : decode cMO_finish 30 = .ok (.invokevirtual 165, 3) := by decide +kernel
theorem dMO_finish_33 : decode cMO_finish 33 = .ok (.ifCond .eq 7, 3) := by decide +kernel
theorem dMO_finish_36 : decode cMO_finish 36 = .ok (.iconst 1, 1) := by decide +kernel
theorem dMO_finish_37 : decode cMO_finish 37 = .ok (.goto 4, 3) := by decide +kernel
theorem dMO_finish_40 : decode cMO_finish 40 = .ok (.iconst 0, 1) := by decide +kernel
theorem dMO_finish_41 : decode cMO_finish 41 = .ok (.istore_n 1, 1) := by decide +kernel
theorem dMO_finish_42 : decode cMO_finish 42 = .ok (.aload_n 0, 1) := by decide +kernel
theorem dMO_finish_43 : decode cMO_finish 43 = .ok (.iconst 0, 1) := by decide +kernel
theorem dMO_finish_44 : decode cMO_finish 44 = .ok (.putfield 140, 3) := by decide +kernel
theorem dMO_finish_47 : decode cMO_finish 47 = .ok (.return_, 1) := by decide +kernel
theorem dMO_finish_48 : decode cMO_finish 48 = .ok (.aload_n 0, 1) := by decide +kernel
theorem dMO_finish_49 : decode cMO_finish 49 = .ok (.getfield 146, 3) := by decide +kernel
theorem dMO_finish_52 : decode cMO_finish 52 = .ok (.sipush 255, 3) := by decide +kernel
theorem dMO_finish_55 : decode cMO_finish 55 = .ok (.if_icmp .eq 12, 3) := by decide +kernel
theorem dMO_finish_58 : decode cMO_finish 58 = .ok (.aload_n 0, 1) := by decide +kernel
theorem dMO_finish_59 : decode cMO_finish 59 = .ok (.getfield 140, 3) := by decide +kernel
theorem dMO_finish_62 : decode cMO_finish 62 = .ok (.bipush 8, 2) := by decide +kernel
theorem dMO_finish_64 : decode cMO_finish 64 = .ok (.if_icmp .ge 11, 3) := by decide +kernel
theorem dMO_finish_67 : decode cMO_finish 67 = .ok (.aload_n 0, 1) := by decide +kernel
theorem dMO_finish_68 : decode cMO_finish 68 = .ok (.aload_n 0, 1) := by decide +kernel
theorem dMO_finish_69 : decode cMO_finish 69 = .ok (.getfield 143, 3) := by decide +kernel
theorem dMO_finish_72 : decode cMO_finish 72 = .ok (.invokevirtual 152, 3) := by decide +kernel
theorem dMO_finish_75 : decode cMO_finish 75 = .ok (.aload_n 0, 1) := by decide +kernel
theorem dMO_finish_76 : decode cMO_finish 76 = .ok (.getfield 146, 3) := by decide +kernel
theorem dMO_finish_79 : decode cMO_finish 79 = .ok (.sipush 255, 3) := by decide +kernel
theorem dMO_finish_82 : decode cMO_finish 82 = .ok (.if_icmp .ne 8, 3) := by decide +kernel
theorem dMO_finish_85 : decode cMO_finish 85 = .ok (.aload_n 0, 1) := by decide +kernel
theorem dMO_finish_86 : decode cMO_finish 86 = .ok (.iconst 0, 1) := by decide +kernel
theorem dMO_finish_87 : decode cMO_finish 87 = .ok (.invokevirtual 152, 3) := by decide +kernel
theorem dMO_finish_90 : decode cMO_finish 90 = .ok (.return_, 1) := by decide +kernel
abbrev cMO_firstOf : ByteArray := prog_12_method_29_code
abbrev yMO_firstOf : MethodName := ⟨"PacketRowsModel", "firstOf", "(I)I"⟩
abbrev wsMO_firstOf : List Cond := .code yMO_firstOf cMO_firstOf 3 (some .int) :: uU
theorem dMO_firstOf_0 : decode cMO_firstOf 0 = .ok (.iconst 0, 1) := by decide +kernel
theorem dMO_firstOf_1 : decode cMO_firstOf 1 = .ok (.istore_n 2, 1) := by decide +kernel
theorem dMO_firstOf_2 : decode cMO_firstOf 2 = .ok (.iload_n 2, 1) := by decide +kernel
theorem dMO_firstOf_3 : decode cMO_firstOf 3 = .ok (.aload_n 0, 1) := by decide +kernel
theorem dMO_firstOf_4 : decode cMO_firstOf 4 = .ok (.getfield 81, 3) := by decide +kernel
theorem dMO_firstOf_7 : decode cMO_firstOf 7 = .ok (.if_icmp .ge 23, 3) := by decide +kernel
theorem dMO_firstOf_10 : decode cMO_firstOf 10 = .ok (.aload_n 0, 1) := by decide +kernel
theorem dMO_firstOf_11 : decode cMO_firstOf 11 = .ok (.getfield 26, 3) := by decide +kernel
theorem dMO_firstOf_14 : decode cMO_firstOf 14 = .ok (.bipush 8, 2) := by decide +kernel
theorem dMO_firstOf_16 : decode cMO_firstOf 16 = .ok (.iload_n 1, 1) := by decide +kernel
theorem dMO_firstOf_17 : decode cMO_firstOf 17 = .ok (.imul, 1) := by decide +kernel
theorem dMO_firstOf_18 : decode cMO_firstOf 18 = .ok (.iload_n 2, 1) := by decide +kernel
theorem dMO_firstOf_19 : decode cMO_firstOf 19 = .ok (.iadd, 1) := by decide +kernel
theorem dMO_firstOf_20 : decode cMO_firstOf 20 = .ok (.iaload, 1) := by decide +kernel
theorem dMO_firstOf_21 : decode cMO_firstOf 21 = .ok (.ifCond .ne 9, 3) := by decide +kernel
theorem dMO_firstOf_24 : decode cMO_firstOf 24 = .ok (.iinc 2 1, 3) := by decide +kernel
theorem dMO_firstOf_27 : decode cMO_firstOf 27 = .ok (.goto (-25), 3) := by decide +kernel
theorem dMO_firstOf_30 : decode cMO_firstOf 30 = .ok (.iload_n 2, 1) := by decide +kernel
theorem dMO_firstOf_31 : decode cMO_firstOf 31 = .ok (.ireturn, 1) := by decide +kernel
abbrev cMO_least : ByteArray := prog_12_method_30_code
abbrev yMO_least : MethodName := ⟨"PacketRowsModel", "least", "(IIZIII)I"⟩
abbrev wsMO_least : List Cond := .code yMO_least cMO_least 11 (some .int) :: uU
theorem dMO_least_0 : decode cMO_least 0 = .ok (.sipush 1000, 3) := by decide +kernel
theorem dMO_least_3 : decode cMO_least 3 = .ok (.istore 7, 2) := by decide +kernel
theorem dMO_least_5 : decode cMO_least 5 = .ok (.iconst 0, 1) := by decide +kernel
theorem dMO_least_6 : decode cMO_least 6 = .ok (.istore 8, 2) := by decide +kernel
theorem dMO_least_8 : decode cMO_least 8 = .ok (.iload 8, 2) := by decide +kernel
theorem dMO_least_10 : decode cMO_least 10 = .ok (.aload_n 0, 1) := by decide +kernel
theorem dMO_least_11 : decode cMO_least 11 = .ok (.getfield 17, 3) := by decide +kernel
theorem dMO_least_14 : decode cMO_least 14 = .ok (.iload_n 1, 1) := by decide +kernel
theorem dMO_least_15 : decode cMO_least 15 = .ok (.iaload, 1) := by decide +kernel
theorem dMO_least_16 : decode cMO_least 16 = .ok (.aload_n 0, 1) := by decide +kernel
theorem dMO_least_17 : decode cMO_least 17 = .ok (.getfield 20, 3) := by decide +kernel
theorem dMO_least_20 : decode cMO_least 20 = .ok (.iload_n 1, 1) := by decide +kernel
theorem dMO_least_21 : decode cMO_least 21 = .ok (.iaload, 1) := by decide +kernel
theorem dMO_least_22 : decode cMO_least 22 = .ok (.imul, 1) := by decide +kernel
theorem dMO_least_23 : decode cMO_least 23 = .ok (.if_icmp .ge 97, 3) := by decide +kernel
theorem dMO_least_26 : decode cMO_least 26 = .ok (.iload 8, 2) := by decide +kernel
theorem dMO_least_28 : decode cMO_least 28 = .ok (.aload_n 0, 1) := by decide +kernel
theorem dMO_least_29 : decode cMO_least 29 = .ok (.getfield 17, 3) := by decide +kernel
theorem dMO_least_32 : decode cMO_least 32 = .ok (.iload_n 1, 1) := by decide +kernel
theorem dMO_least_33 : decode cMO_least 33 = .ok (.iaload, 1) := by decide +kernel
theorem dMO_least_34 : decode cMO_least 34 = .ok (.irem, 1) := by decide +kernel
theorem dMO_least_35 : decode cMO_least 35 = .ok (.iload 4, 2) := by decide +kernel
theorem dMO_least_37 : decode cMO_least 37 = .ok (.ishr, 1) := by decide +kernel
theorem dMO_least_38 : decode cMO_least 38 = .ok (.iload 5, 2) := by decide +kernel
theorem dMO_least_40 : decode cMO_least 40 = .ok (.if_icmp .ne 24, 3) := by decide +kernel
theorem dMO_least_43 : decode cMO_least 43 = .ok (.iload 8, 2) := by decide +kernel
theorem dMO_least_45 : decode cMO_least 45 = .ok (.aload_n 0, 1) := by decide +kernel
theorem dMO_least_46 : decode cMO_least 46 = .ok (.getfield 17, 3) := by decide +kernel
theorem dMO_least_49 : decode cMO_least 49 = .ok (.iload_n 1, 1) := by decide +kernel
theorem dMO_least_50 : decode cMO_least 50 = .ok (.iaload, 1) := by decide +kernel
theorem dMO_least_51 : decode cMO_least 51 = .ok (.idiv, 1) := by decide +kernel
theorem dMO_least_52 : decode cMO_least 52 = .ok (.iload 4, 2) := by decide +kernel
theorem dMO_least_54 : decode cMO_least 54 = .ok (.ishr, 1) := by decide +kernel
theorem dMO_least_55 : decode cMO_least 55 = .ok (.iload 6, 2) := by decide +kernel
theorem dMO_least_57 : decode cMO_least 57 = .ok (.if_icmp .ne 7, 3) := by decide +kernel
theorem dMO_least_60 : decode cMO_least 60 = .ok (.iconst 1, 1) := by decide +kernel
theorem dMO_least_61 : decode cMO_least 61 = .ok (.goto 4, 3) := by decide +kernel
theorem dMO_least_64 : decode cMO_least 64 = .ok (.iconst 0, 1) := by decide +kernel
theorem dMO_least_65 : decode cMO_least 65 = .ok (.istore 9, 2) := by decide +kernel
theorem dMO_least_67 : decode cMO_least 67 = .ok (.iload_n 3, 1) := by decide +kernel
theorem dMO_least_68 : decode cMO_least 68 = .ok (.ifCond .eq 15, 3) := by decide +kernel
theorem dMO_least_71 : decode cMO_least 71 = .ok (.aload_n 0, 1) := by decide +kernel
theorem dMO_least_72 : decode cMO_least 72 = .ok (.getfield 23, 3) := by decide +kernel
theorem dMO_least_75 : decode cMO_least 75 = .ok (.iload_n 2, 1) := by decide +kernel
theorem dMO_least_76 : decode cMO_least 76 = .ok (.iload 8, 2) := by decide +kernel
theorem dMO_least_78 : decode cMO_least 78 = .ok (.iadd, 1) := by decide +kernel
theorem dMO_least_79 : decode cMO_least 79 = .ok (.iaload, 1) := by decide +kernel
theorem dMO_least_80 : decode cMO_least 80 = .ok (.goto 11, 3) := by decide +kernel
theorem dMO_least_83 : decode cMO_least 83 = .ok (.aload_n 0, 1) := by decide +kernel
theorem dMO_least_84 : decode cMO_least 84 = .ok (.iload_n 2, 1) := by decide +kernel
theorem dMO_least_85 : decode cMO_least 85 = .ok (.iload 8, 2) := by decide +kernel
theorem dMO_least_87 : decode cMO_least 87 = .ok (.iadd, 1) := by decide +kernel
theorem dMO_least_88 : decode cMO_least 88 = .ok (.invokevirtual 179, 3) := by decide +kernel
theorem dMO_least_91 : decode cMO_least 91 = .ok (.istore 10, 2) := by decide +kernel
theorem dMO_least_93 : decode cMO_least 93 = .ok (.iload 9, 2) := by decide +kernel
theorem dMO_least_95 : decode cMO_least 95 = .ok (.ifCond .eq 15, 3) := by decide +kernel
theorem dMO_least_98 : decode cMO_least 98 = .ok (.iload 10, 2) := by decide +kernel
theorem dMO_least_100 : decode cMO_least 100 = .ok (.iload 7, 2) := by decide +kernel
theorem dMO_least_102 : decode cMO_least 102 = .ok (.if_icmp .ge 8, 3) := by decide +kernel
theorem dMO_least_105 : decode cMO_least 105 = .ok (.iload 10, 2) := by decide +kernel
theorem dMO_least_107 : decode cMO_least 107 = .ok (.goto 5, 3) := by decide +kernel
theorem dMO_least_110 : decode cMO_least 110 = .ok (.iload 7, 2) := by decide +kernel
theorem dMO_least_112 : decode cMO_least 112 = .ok (.istore 7, 2) := by decide +kernel
theorem dMO_least_114 : decode cMO_least 114 = .ok (.iinc 8 1, 3) := by decide +kernel
theorem dMO_least_117 : decode cMO_least 117 = .ok (.goto (-109), 3) := by decide +kernel
theorem dMO_least_120 : decode cMO_least 120 = .ok (.iload 7, 2) := by decide +kernel
theorem dMO_least_122 : decode cMO_least 122 = .ok (.ireturn, 1) := by decide +kernel
abbrev cMO_levels : ByteArray := prog_12_method_31_code
abbrev yMO_levels : MethodName := ⟨"PacketRowsModel", "levels", "(I)I"⟩
abbrev wsMO_levels : List Cond := .code yMO_levels cMO_levels 3 (some .int) :: uU
theorem dMO_levels_0 : decode cMO_levels 0 = .ok (.iconst 0, 1) := by decide +kernel
theorem dMO_levels_1 : decode cMO_levels 1 = .ok (.istore_n 2, 1) := by decide +kernel
theorem dMO_levels_2 : decode cMO_levels 2 = .ok (.aload_n 0, 1) := by decide +kernel
theorem dMO_levels_3 : decode cMO_levels 3 = .ok (.getfield 17, 3) := by decide +kernel
theorem dMO_levels_6 : decode cMO_levels 6 = .ok (.iload_n 1, 1) := by decide +kernel
theorem dMO_levels_7 : decode cMO_levels 7 = .ok (.iaload, 1) := by decide +kernel
theorem dMO_levels_8 : decode cMO_levels 8 = .ok (.iconst 1, 1) := by decide +kernel
theorem dMO_levels_9 : decode cMO_levels 9 = .ok (.iload_n 2, 1) := by decide +kernel
theorem dMO_levels_10 : decode cMO_levels 10 = .ok (.ishl, 1) := by decide +kernel
theorem dMO_levels_11 : decode cMO_levels 11 = .ok (.if_icmp .gt 15, 3) := by decide +kernel
theorem dMO_levels_14 : decode cMO_levels 14 = .ok (.aload_n 0, 1) := by decide +kernel
theorem dMO_levels_15 : decode cMO_levels 15 = .ok (.getfield 20, 3) := by decide +kernel
theorem dMO_levels_18 : decode cMO_levels 18 = .ok (.iload_n 1, 1) := by decide +kernel
theorem dMO_levels_19 : decode cMO_levels 19 = .ok (.iaload, 1) := by decide +kernel
theorem dMO_levels_20 : decode cMO_levels 20 = .ok (.iconst 1, 1) := by decide +kernel
theorem dMO_levels_21 : decode cMO_levels 21 = .ok (.iload_n 2, 1) := by decide +kernel
theorem dMO_levels_22 : decode cMO_levels 22 = .ok (.ishl, 1) := by decide +kernel
theorem dMO_levels_23 : decode cMO_levels 23 = .ok (.if_icmp .le 9, 3) := by decide +kernel
theorem dMO_levels_26 : decode cMO_levels 26 = .ok (.iinc 2 1, 3) := by decide +kernel
theorem dMO_levels_29 : decode cMO_levels 29 = .ok (.goto (-27), 3) := by decide +kernel
theorem dMO_levels_32 : decode cMO_levels 32 = .ok (.iload_n 2, 1) := by decide +kernel
theorem dMO_levels_33 : decode cMO_levels 33 = .ok (.ireturn, 1) := by decide +kernel
abbrev cMO_offset : ByteArray := prog_12_method_32_code
abbrev yMO_offset : MethodName := ⟨"PacketRowsModel", "offset", "(II)I"⟩
abbrev wsMO_offset : List Cond := .code yMO_offset cMO_offset 5 (some .int) :: uU
theorem dMO_offset_0 : decode cMO_offset 0 = .ok (.iconst 0, 1) := by decide +kernel
theorem dMO_offset_1 : decode cMO_offset 1 = .ok (.istore_n 3, 1) := by decide +kernel
theorem dMO_offset_2 : decode cMO_offset 2 = .ok (.iconst 0, 1) := by decide +kernel
theorem dMO_offset_3 : decode cMO_offset 3 = .ok (.istore 4, 2) := by decide +kernel
theorem dMO_offset_5 : decode cMO_offset 5 = .ok (.iload 4, 2) := by decide +kernel
theorem dMO_offset_7 : decode cMO_offset 7 = .ok (.iload_n 2, 1) := by decide +kernel
theorem dMO_offset_8 : decode cMO_offset 8 = .ok (.if_icmp .ge 35, 3) := by decide +kernel
theorem dMO_offset_11 : decode cMO_offset 11 = .ok (.iload_n 3, 1) := by decide +kernel
theorem dMO_offset_12 : decode cMO_offset 12 = .ok (.aload_n 0, 1) := by decide +kernel
theorem dMO_offset_13 : decode cMO_offset 13 = .ok (.getfield 17, 3) := by decide +kernel
theorem dMO_offset_16 : decode cMO_offset 16 = .ok (.iload_n 1, 1) := by decide +kernel
theorem dMO_offset_17 : decode cMO_offset 17 = .ok (.iaload, 1) := by decide +kernel
theorem dMO_offset_18 : decode cMO_offset 18 = .ok (.iload 4, 2) := by decide +kernel
theorem dMO_offset_20 : decode cMO_offset 20 = .ok (.invokestatic 182, 3) := by decide +kernel
theorem dMO_offset_23 : decode cMO_offset 23 = .ok (.aload_n 0, 1) := by decide +kernel
theorem dMO_offset_24 : decode cMO_offset 24 = .ok (.getfield 20, 3) := by decide +kernel
theorem dMO_offset_27 : decode cMO_offset 27 = .ok (.iload_n 1, 1) := by decide +kernel
theorem dMO_offset_28 : decode cMO_offset 28 = .ok (.iaload, 1) := by decide +kernel
theorem dMO_offset_29 : decode cMO_offset 29 = .ok (.iload 4, 2) := by decide +kernel
theorem dMO_offset_31 : decode cMO_offset 31 = .ok (.invokestatic 182, 3) := by decide +kernel
theorem dMO_offset_34 : decode cMO_offset 34 = .ok (.imul, 1) := by decide +kernel
theorem dMO_offset_35 : decode cMO_offset 35 = .ok (.iadd, 1) := by decide +kernel
theorem dMO_offset_36 : decode cMO_offset 36 = .ok (.istore_n 3, 1) := by decide +kernel
theorem dMO_offset_37 : decode cMO_offset 37 = .ok (.iinc 4 1, 3) := by decide +kernel
theorem dMO_offset_40 : decode cMO_offset 40 = .ok (.goto (-35), 3) := by decide +kernel
theorem dMO_offset_43 : decode cMO_offset 43 = .ok (.iload_n 3, 1) := by decide +kernel
theorem dMO_offset_44 : decode cMO_offset 44 = .ok (.ireturn, 1) := by decide +kernel
abbrev cMO_across : ByteArray := prog_12_method_33_code
abbrev yMO_across : MethodName := ⟨"PacketRowsModel", "across", "(II)I"⟩
abbrev wsMO_across : List Cond := .code yMO_across cMO_across 2 (some .int) :: uU
theorem dMO_across_0 : decode cMO_across 0 = .ok (.iload_n 0, 1) := by decide +kernel
theorem dMO_across_1 : decode cMO_across 1 = .ok (.iconst 1, 1) := by decide +kernel
theorem dMO_across_2 : decode cMO_across 2 = .ok (.iload_n 1, 1) := by decide +kernel
theorem dMO_across_3 : decode cMO_across 3 = .ok (.ishl, 1) := by decide +kernel
theorem dMO_across_4 : decode cMO_across 4 = .ok (.iadd, 1) := by decide +kernel
theorem dMO_across_5 : decode cMO_across 5 = .ok (.iconst 1, 1) := by decide +kernel
theorem dMO_across_6 : decode cMO_across 6 = .ok (.isub, 1) := by decide +kernel
theorem dMO_across_7 : decode cMO_across 7 = .ok (.iload_n 1, 1) := by decide +kernel
theorem dMO_across_8 : decode cMO_across 8 = .ok (.ishr, 1) := by decide +kernel
theorem dMO_across_9 : decode cMO_across 9 = .ok (.ireturn, 1) := by decide +kernel
abbrev cMO_tell : ByteArray := prog_12_method_34_code
abbrev yMO_tell : MethodName := ⟨"PacketRowsModel", "tell", "(IIIZII)I"⟩
abbrev wsMO_tell : List Cond := .code yMO_tell cMO_tell 13 (some .int) :: uU
theorem dMO_tell_0 : decode cMO_tell 0 = .ok (.iconst 0, 1) := by decide +kernel
theorem dMO_tell_1 : decode cMO_tell 1 = .ok (.istore 7, 2) := by decide +kernel
theorem dMO_tell_3 : decode cMO_tell 3 = .ok (.aload_n 0, 1) := by decide +kernel
theorem dMO_tell_4 : decode cMO_tell 4 = .ok (.iload_n 1, 1) := by decide +kernel
theorem dMO_tell_5 : decode cMO_tell 5 = .ok (.invokevirtual 185, 3) := by decide +kernel
theorem dMO_tell_8 : decode cMO_tell 8 = .ok (.istore 8, 2) := by decide +kernel
theorem dMO_tell_10 : decode cMO_tell 10 = .ok (.iload 8, 2) := by decide +kernel
theorem dMO_tell_12 : decode cMO_tell 12 = .ok (.ifCond .lt 216, 3) := by decide +kernel
theorem dMO_tell_15 : decode cMO_tell 15 = .ok (.iload 5, 2) := by decide +kernel
theorem dMO_tell_17 : decode cMO_tell 17 = .ok (.aload_n 0, 1) := by decide +kernel
theorem dMO_tell_18 : decode cMO_tell 18 = .ok (.getfield 17, 3) := by decide +kernel
theorem dMO_tell_21 : decode cMO_tell 21 = .ok (.iload_n 1, 1) := by decide +kernel
theorem dMO_tell_22 : decode cMO_tell 22 = .ok (.iaload, 1) := by decide +kernel
theorem dMO_tell_23 : decode cMO_tell 23 = .ok (.irem, 1) := by decide +kernel
theorem dMO_tell_24 : decode cMO_tell 24 = .ok (.iload 8, 2) := by decide +kernel
theorem dMO_tell_26 : decode cMO_tell 26 = .ok (.ishr, 1) := by decide +kernel
theorem dMO_tell_27 : decode cMO_tell 27 = .ok (.istore 9, 2) := by decide +kernel
theorem dMO_tell_29 : decode cMO_tell 29 = .ok (.iload 5, 2) := by decide +kernel
theorem dMO_tell_31 : decode cMO_tell 31 = .ok (.aload_n 0, 1) := by decide +kernel
theorem dMO_tell_32 : decode cMO_tell 32 = .ok (.getfield 17, 3) := by decide +kernel
theorem dMO_tell_35 : decode cMO_tell 35 = .ok (.iload_n 1, 1) := by decide +kernel
theorem dMO_tell_36 : decode cMO_tell 36 = .ok (.iaload, 1) := by decide +kernel
theorem dMO_tell_37 : decode cMO_tell 37 = .ok (.idiv, 1) := by decide +kernel
theorem dMO_tell_38 : decode cMO_tell 38 = .ok (.iload 8, 2) := by decide +kernel
theorem dMO_tell_40 : decode cMO_tell 40 = .ok (.ishr, 1) := by decide +kernel
theorem dMO_tell_41 : decode cMO_tell 41 = .ok (.istore 10, 2) := by decide +kernel
theorem dMO_tell_43 : decode cMO_tell 43 = .ok (.iload_n 3, 1) := by decide +kernel
theorem dMO_tell_44 : decode cMO_tell 44 = .ok (.aload_n 0, 1) := by decide +kernel
theorem dMO_tell_45 : decode cMO_tell 45 = .ok (.iload_n 1, 1) := by decide +kernel
theorem dMO_tell_46 : decode cMO_tell 46 = .ok (.iload 8, 2) := by decide +kernel
theorem dMO_tell_48 : decode cMO_tell 48 = .ok (.invokevirtual 188, 3) := by decide +kernel
theorem dMO_tell_51 : decode cMO_tell 51 = .ok (.iadd, 1) := by decide +kernel
theorem dMO_tell_52 : decode cMO_tell 52 = .ok (.iload 10, 2) := by decide +kernel
theorem dMO_tell_54 : decode cMO_tell 54 = .ok (.aload_n 0, 1) := by decide +kernel
theorem dMO_tell_55 : decode cMO_tell 55 = .ok (.getfield 17, 3) := by decide +kernel
theorem dMO_tell_58 : decode cMO_tell 58 = .ok (.iload_n 1, 1) := by decide +kernel
theorem dMO_tell_59 : decode cMO_tell 59 = .ok (.iaload, 1) := by decide +kernel
theorem dMO_tell_60 : decode cMO_tell 60 = .ok (.iload 8, 2) := by decide +kernel
theorem dMO_tell_62 : decode cMO_tell 62 = .ok (.invokestatic 182, 3) := by decide +kernel
theorem dMO_tell_65 : decode cMO_tell 65 = .ok (.imul, 1) := by decide +kernel
theorem dMO_tell_66 : decode cMO_tell 66 = .ok (.iadd, 1) := by decide +kernel
theorem dMO_tell_67 : decode cMO_tell 67 = .ok (.iload 9, 2) := by decide +kernel
theorem dMO_tell_69 : decode cMO_tell 69 = .ok (.iadd, 1) := by decide +kernel
theorem dMO_tell_70 : decode cMO_tell 70 = .ok (.istore 11, 2) := by decide +kernel
theorem dMO_tell_72 : decode cMO_tell 72 = .ok (.aload_n 0, 1) := by decide +kernel
theorem dMO_tell_73 : decode cMO_tell 73 = .ok (.getfield 137, 3) := by decide +kernel
theorem dMO_tell_76 : decode cMO_tell 76 = .ok (.ifCond .eq 7, 3) := by decide +kernel
theorem dMO_tell_79 : decode cMO_tell 79 = .ok (.iconst 0, 1) := by decide +kernel
theorem dMO_tell_80 : decode cMO_tell 80 = .ok (.goto 17, 3) := by decide +kernel
theorem dMO_tell_83 : decode cMO_tell 83 = .ok (.aload_n 0, 1) := by decide +kernel
theorem dMO_tell_84 : decode cMO_tell 84 = .ok (.iload_n 1, 1) := by decide +kernel
theorem dMO_tell_85 : decode cMO_tell 85 = .ok (.iload_n 2, 1) := by decide +kernel
theorem dMO_tell_86 : decode cMO_tell 86 = .ok (.iload 4, 2) := by decide +kernel
theorem dMO_tell_88 : decode cMO_tell 88 = .ok (.iload 8, 2) := by decide +kernel
theorem dMO_tell_90 : decode cMO_tell 90 = .ok (.iload 9, 2) := by decide +kernel
theorem dMO_tell_92 : decode cMO_tell 92 = .ok (.iload 10, 2) := by decide +kernel
theorem dMO_tell_94 : decode cMO_tell 94 = .ok (.invokevirtual 191, 3) := by decide +kernel
theorem dMO_tell_97 : decode cMO_tell 97 = .ok (.istore 12, 2) := by decide +kernel
theorem dMO_tell_99 : decode cMO_tell 99 = .ok (.aload_n 0, 1) := by decide +kernel
theorem dMO_tell_100 : decode cMO_tell 100 = .ok (.getfield 63, 3) := by decide +kernel
theorem dMO_tell_103 : decode cMO_tell 103 = .ok (.iload 11, 2) := by decide +kernel
theorem dMO_tell_105 : decode cMO_tell 105 = .ok (.iaload, 1) := by decide +kernel
theorem dMO_tell_106 : decode cMO_tell 106 = .ok (.iload 7, 2) := by decide +kernel
theorem dMO_tell_108 : decode cMO_tell 108 = .ok (.if_icmp .le 13, 3) := by decide +kernel
theorem dMO_tell_111 : decode cMO_tell 111 = .ok (.aload_n 0, 1) := by decide +kernel
theorem dMO_tell_112 : decode cMO_tell 112 = .ok (.getfield 63, 3) := by decide +kernel
theorem dMO_tell_115 : decode cMO_tell 115 = .ok (.iload 11, 2) := by decide +kernel
theorem dMO_tell_117 : decode cMO_tell 117 = .ok (.iaload, 1) := by decide +kernel
theorem dMO_tell_118 : decode cMO_tell 118 = .ok (.goto 5, 3) := by decide +kernel
theorem dMO_tell_121 : decode cMO_tell 121 = .ok (.iload 7, 2) := by decide +kernel
theorem dMO_tell_123 : decode cMO_tell 123 = .ok (.istore 7, 2) := by decide +kernel
theorem dMO_tell_125 : decode cMO_tell 125 = .ok (.iload 7, 2) := by decide +kernel
theorem dMO_tell_127 : decode cMO_tell 127 = .ok (.iload 6, 2) := by decide +kernel
theorem dMO_tell_129 : decode cMO_tell 129 = .ok (.if_icmp .ge 84, 3) := by decide +kernel
theorem dMO_tell_132 : decode cMO_tell 132 = .ok (.aload_n 0, 1) := by decide +kernel
theorem dMO_tell_133 : decode cMO_tell 133 = .ok (.getfield 66, 3) := by decide +kernel
theorem dMO_tell_136 : decode cMO_tell 136 = .ok (.iload 11, 2) := by decide +kernel
theorem dMO_tell_138 : decode cMO_tell 138 = .ok (.baload, 1) := by decide +kernel
theorem dMO_tell_139 : decode cMO_tell 139 = .ok (.ifCond .ne 74, 3) := by decide +kernel
theorem dMO_tell_142 : decode cMO_tell 142 = .ok (.aload_n 0, 1) := by decide +kernel
theorem dMO_tell_143 : decode cMO_tell 143 = .ok (.getfield 162, 3) := by decide +kernel
theorem dMO_tell_146 : decode cMO_tell 146 = .ok (.ifCond .ne 67, 3) := by decide +kernel
theorem dMO_tell_149 : decode cMO_tell 149 = .ok (.iload 4, 2) := by decide +kernel
theorem dMO_tell_151 : decode cMO_tell 151 = .ok (.ifCond .eq 25, 3) := by decide +kernel
theorem dMO_tell_154 : decode cMO_tell 154 = .ok (.aload_n 0, 1) := by decide +kernel
theorem dMO_tell_155 : decode cMO_tell 155 = .ok (.getfield 137, 3) := by decide +kernel
theorem dMO_tell_158 : decode cMO_tell 158 = .ok (.ifCond .eq 18, 3) := by decide +kernel
theorem dMO_tell_161 : decode cMO_tell 161 = .ok (.iload 7, 2) := by decide +kernel
theorem dMO_tell_163 : decode cMO_tell 163 = .ok (.bipush 30, 2) := by decide +kernel
theorem dMO_tell_165 : decode cMO_tell 165 = .ok (.if_icmp .le 11, 3) := by decide +kernel
theorem dMO_tell_168 : decode cMO_tell 168 = .ok (.aload_n 0, 1) := by decide +kernel
theorem dMO_tell_169 : decode cMO_tell 169 = .ok (.iconst 3, 1) := by decide +kernel
theorem dMO_tell_170 : decode cMO_tell 170 = .ok (.putfield 162, 3) := by decide +kernel
theorem dMO_tell_173 : decode cMO_tell 173 = .ok (.goto (-48), 3) := by decide +kernel
theorem dMO_tell_176 : decode cMO_tell 176 = .ok (.aload_n 0, 1) := by decide +kernel
theorem dMO_tell_177 : decode cMO_tell 177 = .ok (.iload 12, 2) := by decide +kernel
theorem dMO_tell_179 : decode cMO_tell 179 = .ok (.iload 7, 2) := by decide +kernel
theorem dMO_tell_181 : decode cMO_tell 181 = .ok (.if_icmp .ne 7, 3) := by decide +kernel
theorem dMO_tell_184 : decode cMO_tell 184 = .ok (.iconst 1, 1) := by decide +kernel
theorem dMO_tell_185 : decode cMO_tell 185 = .ok (.goto 4, 3) := by decide +kernel
theorem dMO_tell_188 : decode cMO_tell 188 = .ok (.iconst 0, 1) := by decide +kernel
theorem dMO_tell_189 : decode cMO_tell 189 = .ok (.invokevirtual 176, 3) := by decide +kernel
theorem dMO_tell_192 : decode cMO_tell 192 = .ok (.iconst 1, 1) := by decide +kernel
theorem dMO_tell_193 : decode cMO_tell 193 = .ok (.if_icmp .ne 14, 3) := by decide +kernel
theorem dMO_tell_196 : decode cMO_tell 196 = .ok (.aload_n 0, 1) := by decide +kernel
theorem dMO_tell_197 : decode cMO_tell 197 = .ok (.getfield 66, 3) := by decide +kernel
theorem dMO_tell_200 : decode cMO_tell 200 = .ok (.iload 11, 2) := by decide +kernel
theorem dMO_tell_202 : decode cMO_tell 202 = .ok (.iconst 1, 1) := by decide +kernel
theorem dMO_tell_203 : decode cMO_tell 203 = .ok (.bastore, 1) := by decide +kernel
theorem dMO_tell_204 : decode cMO_tell 204 = .ok (.goto (-79), 3) := by decide +kernel
theorem dMO_tell_207 : decode cMO_tell 207 = .ok (.iinc 7 1, 3) := by decide +kernel
theorem dMO_tell_210 : decode cMO_tell 210 = .ok (.goto (-85), 3) := by decide +kernel
theorem dMO_tell_213 : decode cMO_tell 213 = .ok (.aload_n 0, 1) := by decide +kernel
theorem dMO_tell_214 : decode cMO_tell 214 = .ok (.getfield 63, 3) := by decide +kernel
theorem dMO_tell_217 : decode cMO_tell 217 = .ok (.iload 11, 2) := by decide +kernel
theorem dMO_tell_219 : decode cMO_tell 219 = .ok (.iload 7, 2) := by decide +kernel
theorem dMO_tell_221 : decode cMO_tell 221 = .ok (.iastore, 1) := by decide +kernel
theorem dMO_tell_222 : decode cMO_tell 222 = .ok (.iinc 8 (-1), 3) := by decide +kernel
theorem dMO_tell_225 : decode cMO_tell 225 = .ok (.goto (-215), 3) := by decide +kernel
theorem dMO_tell_228 : decode cMO_tell 228 = .ok (.iload 7, 2) := by decide +kernel
theorem dMO_tell_230 : decode cMO_tell 230 = .ok (.ireturn, 1) := by decide +kernel
abbrev cMO_isDone : ByteArray := prog_12_method_35_code
abbrev yMO_isDone : MethodName := ⟨"PacketRowsModel", "isDone", "(II)Z"⟩
abbrev wsMO_isDone : List Cond := .code yMO_isDone cMO_isDone 3 (some .boolean) :: uU
theorem dMO_isDone_0 : decode cMO_isDone 0 = .ok (.aload_n 0, 1) := by decide +kernel
theorem dMO_isDone_1 : decode cMO_isDone 1 = .ok (.getfield 66, 3) := by decide +kernel
theorem dMO_isDone_4 : decode cMO_isDone 4 = .ok (.iload_n 1, 1) := by decide +kernel
theorem dMO_isDone_5 : decode cMO_isDone 5 = .ok (.iload_n 2, 1) := by decide +kernel
theorem dMO_isDone_6 : decode cMO_isDone 6 = .ok (.iadd, 1) := by decide +kernel
theorem dMO_isDone_7 : decode cMO_isDone 7 = .ok (.baload, 1) := by decide +kernel
theorem dMO_isDone_8 : decode cMO_isDone 8 = .ok (.ireturn, 1) := by decide +kernel
abbrev cMO_log : ByteArray := prog_12_method_36_code
abbrev yMO_log : MethodName := ⟨"PacketRowsModel", "log", "(I)I"⟩
abbrev wsMO_log : List Cond := .code yMO_log cMO_log 2 (some .int) :: uU
theorem dMO_log_0 : decode cMO_log 0 = .ok (.iconst 0, 1) := by decide +kernel
theorem dMO_log_1 : decode cMO_log 1 = .ok (.istore_n 1, 1) := by decide +kernel
theorem dMO_log_2 : decode cMO_log 2 = .ok (.iload_n 0, 1) := by decide +kernel
theorem dMO_log_3 : decode cMO_log 3 = .ok (.iload_n 1, 1) := by decide +kernel
theorem dMO_log_4 : decode cMO_log 4 = .ok (.ishr, 1) := by decide +kernel
theorem dMO_log_5 : decode cMO_log 5 = .ok (.iconst 1, 1) := by decide +kernel
theorem dMO_log_6 : decode cMO_log 6 = .ok (.if_icmp .le 9, 3) := by decide +kernel
theorem dMO_log_9 : decode cMO_log 9 = .ok (.iinc 1 1, 3) := by decide +kernel
theorem dMO_log_12 : decode cMO_log 12 = .ok (.goto (-10), 3) := by decide +kernel
theorem dMO_log_15 : decode cMO_log 15 = .ok (.iload_n 1, 1) := by decide +kernel
theorem dMO_log_16 : decode cMO_log 16 = .ok (.ireturn, 1) := by decide +kernel
abbrev cMO_tellPasses : ByteArray := prog_12_method_37_code
abbrev yMO_tellPasses : MethodName := ⟨"PacketRowsModel", "tellPasses", "(I)I"⟩
abbrev wsMO_tellPasses : List Cond := .code yMO_tellPasses cMO_tellPasses 4 (some .int) :: uU
theorem dMO_tellPasses_0 : decode cMO_tellPasses 0 = .ok (.aload_n 0, 1) := by decide +kernel
theorem dMO_tellPasses_1 : decode cMO_tellPasses 1 = .ok (.iload_n 1, 1) := by decide +kernel
theorem dMO_tellPasses_2 : decode cMO_tellPasses 2 = .ok (.iconst 1, 1) := by decide +kernel
theorem dMO_tellPasses_3 : decode cMO_tellPasses 3 = .ok (.if_icmp .le 7, 3) := by decide +kernel
theorem dMO_tellPasses_6 : decode cMO_tellPasses 6 = .ok (.iconst 1, 1) := by decide +kernel
theorem dMO_tellPasses_7 : decode cMO_tellPasses 7 = .ok (.goto 4, 3) := by decide +kernel
theorem dMO_tellPasses_10 : decode cMO_tellPasses 10 = .ok (.iconst 0, 1) := by decide +kernel
theorem dMO_tellPasses_11 : decode cMO_tellPasses 11 = .ok (.invokevirtual 176, 3) := by decide +kernel
theorem dMO_tellPasses_14 : decode cMO_tellPasses 14 = .ok (.ifCond .ne 5, 3) := by decide +kernel
theorem dMO_tellPasses_17 : decode cMO_tellPasses 17 = .ok (.iconst 1, 1) := by decide +kernel
theorem dMO_tellPasses_18 : decode cMO_tellPasses 18 = .ok (.ireturn, 1) := by decide +kernel
theorem dMO_tellPasses_19 : decode cMO_tellPasses 19 = .ok (.aload_n 0, 1) := by decide +kernel
theorem dMO_tellPasses_20 : decode cMO_tellPasses 20 = .ok (.iload_n 1, 1) := by decide +kernel
theorem dMO_tellPasses_21 : decode cMO_tellPasses 21 = .ok (.iconst 2, 1) := by decide +kernel
theorem dMO_tellPasses_22 : decode cMO_tellPasses 22 = .ok (.if_icmp .le 7, 3) := by decide +kernel
theorem dMO_tellPasses_25 : decode cMO_tellPasses 25 = .ok (.iconst 1, 1) := by decide +kernel
theorem dMO_tellPasses_26 : decode cMO_tellPasses 26 = .ok (.goto 4, 3) := by decide +kernel
theorem dMO_tellPasses_29 : decode cMO_tellPasses 29 = .ok (.iconst 0, 1) := by decide +kernel
theorem dMO_tellPasses_30 : decode cMO_tellPasses 30 = .ok (.invokevirtual 176, 3) := by decide +kernel
theorem dMO_tellPasses_33 : decode cMO_tellPasses 33 = .ok (.ifCond .ne 5, 3) := by decide +kernel
theorem dMO_tellPasses_36 : decode cMO_tellPasses 36 = .ok (.iconst 2, 1) := by decide +kernel
theorem dMO_tellPasses_37 : decode cMO_tellPasses 37 = .ok (.ireturn, 1) := by decide +kernel
theorem dMO_tellPasses_38 : decode cMO_tellPasses 38 = .ok (.aload_n 0, 1) := by decide +kernel
theorem dMO_tellPasses_39 : decode cMO_tellPasses 39 = .ok (.iconst 2, 1) := by decide +kernel
theorem dMO_tellPasses_40 : decode cMO_tellPasses 40 = .ok (.iload_n 1, 1) := by decide +kernel
theorem dMO_tellPasses_41 : decode cMO_tellPasses 41 = .ok (.iconst 5, 1) := by decide +kernel
theorem dMO_tellPasses_42 : decode cMO_tellPasses 42 = .ok (.if_icmp .le 7, 3) := by decide +kernel
theorem dMO_tellPasses_45 : decode cMO_tellPasses 45 = .ok (.iconst 3, 1) := by decide +kernel
theorem dMO_tellPasses_46 : decode cMO_tellPasses 46 = .ok (.goto 6, 3) := by decide +kernel
theorem dMO_tellPasses_49 : decode cMO_tellPasses 49 = .ok (.iload_n 1, 1) := by decide +kernel
theorem dMO_tellPasses_50 : decode cMO_tellPasses 50 = .ok (.iconst 3, 1) := by decide +kernel
theorem dMO_tellPasses_51 : decode cMO_tellPasses 51 = .ok (.isub, 1) := by decide +kernel
theorem dMO_tellPasses_52 : decode cMO_tellPasses 52 = .ok (.invokevirtual 195, 3) := by decide +kernel
theorem dMO_tellPasses_55 : decode cMO_tellPasses 55 = .ok (.istore_n 2, 1) := by decide +kernel
theorem dMO_tellPasses_56 : decode cMO_tellPasses 56 = .ok (.iload_n 2, 1) := by decide +kernel
theorem dMO_tellPasses_57 : decode cMO_tellPasses 57 = .ok (.iconst 3, 1) := by decide +kernel
theorem dMO_tellPasses_58 : decode cMO_tellPasses 58 = .ok (.if_icmp .ge 7, 3) := by decide +kernel
theorem dMO_tellPasses_61 : decode cMO_tellPasses 61 = .ok (.iconst 3, 1) := by decide +kernel
theorem dMO_tellPasses_62 : decode cMO_tellPasses 62 = .ok (.iload_n 2, 1) := by decide +kernel
theorem dMO_tellPasses_63 : decode cMO_tellPasses 63 = .ok (.iadd, 1) := by decide +kernel
theorem dMO_tellPasses_64 : decode cMO_tellPasses 64 = .ok (.ireturn, 1) := by decide +kernel
theorem dMO_tellPasses_65 : decode cMO_tellPasses 65 = .ok (.aload_n 0, 1) := by decide +kernel
theorem dMO_tellPasses_66 : decode cMO_tellPasses 66 = .ok (.iconst 5, 1) := by decide +kernel
theorem dMO_tellPasses_67 : decode cMO_tellPasses 67 = .ok (.iload_n 1, 1) := by decide +kernel
theorem dMO_tellPasses_68 : decode cMO_tellPasses 68 = .ok (.bipush 36, 2) := by decide +kernel
theorem dMO_tellPasses_70 : decode cMO_tellPasses 70 = .ok (.if_icmp .le 8, 3) := by decide +kernel
theorem dMO_tellPasses_73 : decode cMO_tellPasses 73 = .ok (.bipush 31, 2) := by decide +kernel
theorem dMO_tellPasses_75 : decode cMO_tellPasses 75 = .ok (.goto 7, 3) := by decide +kernel
theorem dMO_tellPasses_78 : decode cMO_tellPasses 78 = .ok (.iload_n 1, 1) := by decide +kernel
theorem dMO_tellPasses_79 : decode cMO_tellPasses 79 = .ok (.bipush 6, 2) := by decide +kernel
theorem dMO_tellPasses_81 : decode cMO_tellPasses 81 = .ok (.isub, 1) := by decide +kernel
theorem dMO_tellPasses_82 : decode cMO_tellPasses 82 = .ok (.invokevirtual 195, 3) := by decide +kernel
theorem dMO_tellPasses_85 : decode cMO_tellPasses 85 = .ok (.istore_n 3, 1) := by decide +kernel
theorem dMO_tellPasses_86 : decode cMO_tellPasses 86 = .ok (.iload_n 3, 1) := by decide +kernel
theorem dMO_tellPasses_87 : decode cMO_tellPasses 87 = .ok (.bipush 31, 2) := by decide +kernel
theorem dMO_tellPasses_89 : decode cMO_tellPasses 89 = .ok (.if_icmp .ge 8, 3) := by decide +kernel
theorem dMO_tellPasses_92 : decode cMO_tellPasses 92 = .ok (.bipush 6, 2) := by decide +kernel
theorem dMO_tellPasses_94 : decode cMO_tellPasses 94 = .ok (.iload_n 3, 1) := by decide +kernel
theorem dMO_tellPasses_95 : decode cMO_tellPasses 95 = .ok (.iadd, 1) := by decide +kernel
theorem dMO_tellPasses_96 : decode cMO_tellPasses 96 = .ok (.ireturn, 1) := by decide +kernel
theorem dMO_tellPasses_97 : decode cMO_tellPasses 97 = .ok (.bipush 37, 2) := by decide +kernel
theorem dMO_tellPasses_99 : decode cMO_tellPasses 99 = .ok (.aload_n 0, 1) := by decide +kernel
theorem dMO_tellPasses_100 : decode cMO_tellPasses 100 = .ok (.bipush 7, 2) := by decide +kernel
theorem dMO_tellPasses_102 : decode cMO_tellPasses 102 = .ok (.iload_n 1, 1) := by decide +kernel
theorem dMO_tellPasses_103 : decode cMO_tellPasses 103 = .ok (.bipush 37, 2) := by decide +kernel
theorem dMO_tellPasses_105 : decode cMO_tellPasses 105 = .ok (.isub, 1) := by decide +kernel
theorem dMO_tellPasses_106 : decode cMO_tellPasses 106 = .ok (.invokevirtual 195, 3) := by decide +kernel
theorem dMO_tellPasses_109 : decode cMO_tellPasses 109 = .ok (.iadd, 1) := by decide +kernel
theorem dMO_tellPasses_110 : decode cMO_tellPasses 110 = .ok (.ireturn, 1) := by decide +kernel
abbrev cMO_tellLength : ByteArray := prog_12_method_38_code
abbrev yMO_tellLength : MethodName := ⟨"PacketRowsModel", "tellLength", "(III)I"⟩
abbrev wsMO_tellLength : List Cond := .code yMO_tellLength cMO_tellLength 5 (some .int) :: uU
theorem dMO_tellLength_0 : decode cMO_tellLength 0 = .ok (.iload_n 2, 1) := by decide +kernel
theorem dMO_tellLength_1 : decode cMO_tellLength 1 = .ok (.invokestatic 198, 3) := by decide +kernel
theorem dMO_tellLength_4 : decode cMO_tellLength 4 = .ok (.istore 4, 2) := by decide +kernel
theorem dMO_tellLength_6 : decode cMO_tellLength 6 = .ok (.aload_n 0, 1) := by decide +kernel
theorem dMO_tellLength_7 : decode cMO_tellLength 7 = .ok (.aload_n 0, 1) := by decide +kernel
theorem dMO_tellLength_8 : decode cMO_tellLength 8 = .ok (.getfield 137, 3) := by decide +kernel
theorem dMO_tellLength_11 : decode cMO_tellLength 11 = .ok (.ifCond .eq 21, 3) := by decide +kernel
theorem dMO_tellLength_14 : decode cMO_tellLength 14 = .ok (.aload_n 0, 1) := by decide +kernel
theorem dMO_tellLength_15 : decode cMO_tellLength 15 = .ok (.getfield 60, 3) := by decide +kernel
theorem dMO_tellLength_18 : decode cMO_tellLength 18 = .ok (.iload_n 1, 1) := by decide +kernel
theorem dMO_tellLength_19 : decode cMO_tellLength 19 = .ok (.iaload, 1) := by decide +kernel
theorem dMO_tellLength_20 : decode cMO_tellLength 20 = .ok (.iload 4, 2) := by decide +kernel
theorem dMO_tellLength_22 : decode cMO_tellLength 22 = .ok (.iadd, 1) := by decide +kernel
theorem dMO_tellLength_23 : decode cMO_tellLength 23 = .ok (.bipush 24, 2) := by decide +kernel
theorem dMO_tellLength_25 : decode cMO_tellLength 25 = .ok (.if_icmp .le 7, 3) := by decide +kernel
theorem dMO_tellLength_28 : decode cMO_tellLength 28 = .ok (.iconst 3, 1) := by decide +kernel
theorem dMO_tellLength_29 : decode cMO_tellLength 29 = .ok (.goto 7, 3) := by decide +kernel
theorem dMO_tellLength_32 : decode cMO_tellLength 32 = .ok (.aload_n 0, 1) := by decide +kernel
theorem dMO_tellLength_33 : decode cMO_tellLength 33 = .ok (.getfield 162, 3) := by decide +kernel
theorem dMO_tellLength_36 : decode cMO_tellLength 36 = .ok (.putfield 162, 3) := by decide +kernel
theorem dMO_tellLength_39 : decode cMO_tellLength 39 = .ok (.aload_n 0, 1) := by decide +kernel
theorem dMO_tellLength_40 : decode cMO_tellLength 40 = .ok (.getfield 162, 3) := by decide +kernel
theorem dMO_tellLength_43 : decode cMO_tellLength 43 = .ok (.ifCond .ne 76, 3) := by decide +kernel
theorem dMO_tellLength_46 : decode cMO_tellLength 46 = .ok (.aload_n 0, 1) := by decide +kernel
theorem dMO_tellLength_47 : decode cMO_tellLength 47 = .ok (.iload_n 3, 1) := by decide +kernel
theorem dMO_tellLength_48 : decode cMO_tellLength 48 = .ok (.aload_n 0, 1) := by decide +kernel
theorem dMO_tellLength_49 : decode cMO_tellLength 49 = .ok (.getfield 60, 3) := by decide +kernel
theorem dMO_tellLength_52 : decode cMO_tellLength 52 = .ok (.iload_n 1, 1) := by decide +kernel
theorem dMO_tellLength_53 : decode cMO_tellLength 53 = .ok (.iaload, 1) := by decide +kernel
theorem dMO_tellLength_54 : decode cMO_tellLength 54 = .ok (.iload 4, 2) := by decide +kernel
theorem dMO_tellLength_56 : decode cMO_tellLength 56 = .ok (.iadd, 1) := by decide +kernel
theorem dMO_tellLength_57 : decode cMO_tellLength 57 = .ok (.ishr, 1) := by decide +kernel
theorem dMO_tellLength_58 : decode cMO_tellLength 58 = .ok (.ifCond .le 7, 3) := by decide +kernel
theorem dMO_tellLength_61 : decode cMO_tellLength 61 = .ok (.iconst 1, 1) := by decide +kernel
theorem dMO_tellLength_62 : decode cMO_tellLength 62 = .ok (.goto 4, 3) := by decide +kernel
theorem dMO_tellLength_65 : decode cMO_tellLength 65 = .ok (.iconst 0, 1) := by decide +kernel
theorem dMO_tellLength_66 : decode cMO_tellLength 66 = .ok (.invokevirtual 176, 3) := by decide +kernel
theorem dMO_tellLength_69 : decode cMO_tellLength 69 = .ok (.iconst 1, 1) := by decide +kernel
theorem dMO_tellLength_70 : decode cMO_tellLength 70 = .ok (.if_icmp .ne 49, 3) := by decide +kernel
theorem dMO_tellLength_73 : decode cMO_tellLength 73 = .ok (.aload_n 0, 1) := by decide +kernel
theorem dMO_tellLength_74 : decode cMO_tellLength 74 = .ok (.getfield 60, 3) := by decide +kernel
theorem dMO_tellLength_77 : decode cMO_tellLength 77 = .ok (.iload_n 1, 1) := by decide +kernel
theorem dMO_tellLength_78 : decode cMO_tellLength 78 = .ok (.dup2, 1) := by decide +kernel
theorem dMO_tellLength_79 : decode cMO_tellLength 79 = .ok (.iaload, 1) := by decide +kernel
theorem dMO_tellLength_80 : decode cMO_tellLength 80 = .ok (.iconst 1, 1) := by decide +kernel
theorem dMO_tellLength_81 : decode cMO_tellLength 81 = .ok (.iadd, 1) := by decide +kernel
theorem dMO_tellLength_82 : decode cMO_tellLength 82 = .ok (.iastore, 1) := by decide +kernel
theorem dMO_tellLength_83 : decode cMO_tellLength 83 = .ok (.aload_n 0, 1) := by decide +kernel
theorem dMO_tellLength_84 : decode cMO_tellLength 84 = .ok (.aload_n 0, 1) := by decide +kernel
theorem dMO_tellLength_85 : decode cMO_tellLength 85 = .ok (.getfield 137, 3) := by decide +kernel
theorem dMO_tellLength_88 : decode cMO_tellLength 88 = .ok (.ifCond .eq 21, 3) := by decide +kernel
theorem dMO_tellLength_91 : decode cMO_tellLength 91 = .ok (.aload_n 0, 1) := by decide +kernel
theorem dMO_tellLength_92 : decode cMO_tellLength 92 = .ok (.getfield 60, 3) := by decide +kernel
theorem dMO_tellLength_95 : decode cMO_tellLength 95 = .ok (.iload_n 1, 1) := by decide +kernel
theorem dMO_tellLength_96 : decode cMO_tellLength 96 = .ok (.iaload, 1) := by decide +kernel
theorem dMO_tellLength_97 : decode cMO_tellLength 97 = .ok (.iload 4, 2) := by decide +kernel
theorem dMO_tellLength_99 : decode cMO_tellLength 99 = .ok (.iadd, 1) := by decide +kernel
theorem dMO_tellLength_100 : decode cMO_tellLength 100 = .ok (.bipush 24, 2) := by decide +kernel
theorem dMO_tellLength_102 : decode cMO_tellLength 102 = .ok (.if_icmp .le 7, 3) := by decide +kernel
theorem dMO_tellLength_105 : decode cMO_tellLength 105 = .ok (.iconst 3, 1) := by decide +kernel
theorem dMO_tellLength_106 : decode cMO_tellLength 106 = .ok (.goto 7, 3) := by decide +kernel
theorem dMO_tellLength_109 : decode cMO_tellLength 109 = .ok (.aload_n 0, 1) := by decide +kernel
theorem dMO_tellLength_110 : decode cMO_tellLength 110 = .ok (.getfield 162, 3) := by decide +kernel
theorem dMO_tellLength_113 : decode cMO_tellLength 113 = .ok (.putfield 162, 3) := by decide +kernel
theorem dMO_tellLength_116 : decode cMO_tellLength 116 = .ok (.goto (-77), 3) := by decide +kernel
theorem dMO_tellLength_119 : decode cMO_tellLength 119 = .ok (.aload_n 0, 1) := by decide +kernel
theorem dMO_tellLength_120 : decode cMO_tellLength 120 = .ok (.getfield 162, 3) := by decide +kernel
theorem dMO_tellLength_123 : decode cMO_tellLength 123 = .ok (.ifCond .ne 20, 3) := by decide +kernel
theorem dMO_tellLength_126 : decode cMO_tellLength 126 = .ok (.aload_n 0, 1) := by decide +kernel
theorem dMO_tellLength_127 : decode cMO_tellLength 127 = .ok (.aload_n 0, 1) := by decide +kernel
theorem dMO_tellLength_128 : decode cMO_tellLength 128 = .ok (.getfield 60, 3) := by decide +kernel
theorem dMO_tellLength_131 : decode cMO_tellLength 131 = .ok (.iload_n 1, 1) := by decide +kernel
theorem dMO_tellLength_132 : decode cMO_tellLength 132 = .ok (.iaload, 1) := by decide +kernel
theorem dMO_tellLength_133 : decode cMO_tellLength 133 = .ok (.iload 4, 2) := by decide +kernel
theorem dMO_tellLength_135 : decode cMO_tellLength 135 = .ok (.iadd, 1) := by decide +kernel
theorem dMO_tellLength_136 : decode cMO_tellLength 136 = .ok (.iload_n 3, 1) := by decide +kernel
theorem dMO_tellLength_137 : decode cMO_tellLength 137 = .ok (.invokevirtual 195, 3) := by decide +kernel
theorem dMO_tellLength_140 : decode cMO_tellLength 140 = .ok (.goto 4, 3) := by decide +kernel
theorem dMO_tellLength_143 : decode cMO_tellLength 143 = .ok (.iconst 0, 1) := by decide +kernel
theorem dMO_tellLength_144 : decode cMO_tellLength 144 = .ok (.ireturn, 1) := by decide +kernel
abbrev cMO_hadBefore : ByteArray := prog_12_method_39_code
abbrev yMO_hadBefore : MethodName := ⟨"PacketRowsModel", "hadBefore", "(II)Z"⟩
abbrev wsMO_hadBefore : List Cond := .code yMO_hadBefore cMO_hadBefore 3 (some .boolean) :: uU
theorem dMO_hadBefore_0 : decode cMO_hadBefore 0 = .ok (.aload_n 0, 1) := by decide +kernel
theorem dMO_hadBefore_1 : decode cMO_hadBefore 1 = .ok (.getfield 137, 3) := by decide +kernel
theorem dMO_hadBefore_4 : decode cMO_hadBefore 4 = .ok (.ifCond .eq 21, 3) := by decide +kernel
theorem dMO_hadBefore_7 : decode cMO_hadBefore 7 = .ok (.aload_n 0, 1) := by decide +kernel
theorem dMO_hadBefore_8 : decode cMO_hadBefore 8 = .ok (.getfield 35, 3) := by decide +kernel
theorem dMO_hadBefore_11 : decode cMO_hadBefore 11 = .ok (.iload_n 1, 1) := by decide +kernel
theorem dMO_hadBefore_12 : decode cMO_hadBefore 12 = .ok (.iaload, 1) := by decide +kernel
theorem dMO_hadBefore_13 : decode cMO_hadBefore 13 = .ok (.iconst (-1), 1) := by decide +kernel
theorem dMO_hadBefore_14 : decode cMO_hadBefore 14 = .ok (.if_icmp .eq 7, 3) := by decide +kernel
theorem dMO_hadBefore_17 : decode cMO_hadBefore 17 = .ok (.iconst 1, 1) := by decide +kernel
theorem dMO_hadBefore_18 : decode cMO_hadBefore 18 = .ok (.goto 21, 3) := by decide +kernel
theorem dMO_hadBefore_21 : decode cMO_hadBefore 21 = .ok (.iconst 0, 1) := by decide +kernel
theorem dMO_hadBefore_22 : decode cMO_hadBefore 22 = .ok (.goto 17, 3) := by decide +kernel
theorem dMO_hadBefore_25 : decode cMO_hadBefore 25 = .ok (.aload_n 0, 1) := by decide +kernel
theorem dMO_hadBefore_26 : decode cMO_hadBefore 26 = .ok (.iload_n 1, 1) := by decide +kernel
theorem dMO_hadBefore_27 : decode cMO_hadBefore 27 = .ok (.invokevirtual 179, 3) := by decide +kernel
theorem dMO_hadBefore_30 : decode cMO_hadBefore 30 = .ok (.iload_n 2, 1) := by decide +kernel
theorem dMO_hadBefore_31 : decode cMO_hadBefore 31 = .ok (.if_icmp .ge 7, 3) := by decide +kernel
theorem dMO_hadBefore_34 : decode cMO_hadBefore 34 = .ok (.iconst 1, 1) := by decide +kernel
theorem dMO_hadBefore_35 : decode cMO_hadBefore 35 = .ok (.goto 4, 3) := by decide +kernel
theorem dMO_hadBefore_38 : decode cMO_hadBefore 38 = .ok (.iconst 0, 1) := by decide +kernel
theorem dMO_hadBefore_39 : decode cMO_hadBefore 39 = .ok (.ireturn, 1) := by decide +kernel
abbrev cMO_block : ByteArray := prog_12_method_40_code
abbrev yMO_block : MethodName := ⟨"PacketRowsModel", "block", "(IIIII)V"⟩
abbrev wsMO_block : List Cond := .code yMO_block cMO_block 12 (none) :: uU
theorem dMO_block_0 : decode cMO_block 0 = .ok (.iload_n 2, 1) := by decide +kernel
theorem dMO_block_1 : decode cMO_block 1 = .ok (.iload 4, 2) := by decide +kernel
theorem dMO_block_3 : decode cMO_block 3 = .ok (.iadd, 1) := by decide +kernel
theorem dMO_block_4 : decode cMO_block 4 = .ok (.istore 6, 2) := by decide +kernel
theorem dMO_block_6 : decode cMO_block 6 = .ok (.bipush 8, 2) := by decide +kernel
theorem dMO_block_8 : decode cMO_block 8 = .ok (.iload 6, 2) := by decide +kernel
theorem dMO_block_10 : decode cMO_block 10 = .ok (.imul, 1) := by decide +kernel
theorem dMO_block_11 : decode cMO_block 11 = .ok (.iload 5, 2) := by decide +kernel
theorem dMO_block_13 : decode cMO_block 13 = .ok (.iadd, 1) := by decide +kernel
theorem dMO_block_14 : decode cMO_block 14 = .ok (.istore 7, 2) := by decide +kernel
theorem dMO_block_16 : decode cMO_block 16 = .ok (.aload_n 0, 1) := by decide +kernel
theorem dMO_block_17 : decode cMO_block 17 = .ok (.iload 6, 2) := by decide +kernel
theorem dMO_block_19 : decode cMO_block 19 = .ok (.iload 5, 2) := by decide +kernel
theorem dMO_block_21 : decode cMO_block 21 = .ok (.invokevirtual 201, 3) := by decide +kernel
theorem dMO_block_24 : decode cMO_block 24 = .ok (.istore 8, 2) := by decide +kernel
theorem dMO_block_26 : decode cMO_block 26 = .ok (.iload 8, 2) := by decide +kernel
theorem dMO_block_28 : decode cMO_block 28 = .ok (.ifCond .eq 36, 3) := by decide +kernel
theorem dMO_block_31 : decode cMO_block 31 = .ok (.aload_n 0, 1) := by decide +kernel
theorem dMO_block_32 : decode cMO_block 32 = .ok (.aload_n 0, 1) := by decide +kernel
theorem dMO_block_33 : decode cMO_block 33 = .ok (.getfield 26, 3) := by decide +kernel
theorem dMO_block_36 : decode cMO_block 36 = .ok (.iload 7, 2) := by decide +kernel
theorem dMO_block_38 : decode cMO_block 38 = .ok (.iaload, 1) := by decide +kernel
theorem dMO_block_39 : decode cMO_block 39 = .ok (.ifCond .le 7, 3) := by decide +kernel
theorem dMO_block_42 : decode cMO_block 42 = .ok (.iconst 1, 1) := by decide +kernel
theorem dMO_block_43 : decode cMO_block 43 = .ok (.goto 4, 3) := by decide +kernel
theorem dMO_block_46 : decode cMO_block 46 = .ok (.iconst 0, 1) := by decide +kernel
theorem dMO_block_47 : decode cMO_block 47 = .ok (.invokevirtual 176, 3) := by decide +kernel
theorem dMO_block_50 : decode cMO_block 50 = .ok (.iconst 1, 1) := by decide +kernel
theorem dMO_block_51 : decode cMO_block 51 = .ok (.if_icmp .ne 7, 3) := by decide +kernel
theorem dMO_block_54 : decode cMO_block 54 = .ok (.iconst 1, 1) := by decide +kernel
theorem dMO_block_55 : decode cMO_block 55 = .ok (.goto 4, 3) := by decide +kernel
theorem dMO_block_58 : decode cMO_block 58 = .ok (.iconst 0, 1) := by decide +kernel
theorem dMO_block_59 : decode cMO_block 59 = .ok (.istore 9, 2) := by decide +kernel
theorem dMO_block_61 : decode cMO_block 61 = .ok (.goto 28, 3) := by decide +kernel
theorem dMO_block_64 : decode cMO_block 64 = .ok (.aload_n 0, 1) := by decide +kernel
theorem dMO_block_65 : decode cMO_block 65 = .ok (.iload_n 1, 1) := by decide +kernel
theorem dMO_block_66 : decode cMO_block 66 = .ok (.iload_n 2, 1) := by decide +kernel
theorem dMO_block_67 : decode cMO_block 67 = .ok (.iload_n 3, 1) := by decide +kernel
theorem dMO_block_68 : decode cMO_block 68 = .ok (.iconst 0, 1) := by decide +kernel
theorem dMO_block_69 : decode cMO_block 69 = .ok (.iload 4, 2) := by decide +kernel
theorem dMO_block_71 : decode cMO_block 71 = .ok (.iload 5, 2) := by decide +kernel
theorem dMO_block_73 : decode cMO_block 73 = .ok (.iconst 1, 1) := by decide +kernel
theorem dMO_block_74 : decode cMO_block 74 = .ok (.iadd, 1) := by decide +kernel
theorem dMO_block_75 : decode cMO_block 75 = .ok (.invokevirtual 205, 3) := by decide +kernel
theorem dMO_block_78 : decode cMO_block 78 = .ok (.istore 10, 2) := by decide +kernel
theorem dMO_block_80 : decode cMO_block 80 = .ok (.aload_n 0, 1) := by decide +kernel
theorem dMO_block_81 : decode cMO_block 81 = .ok (.iload_n 3, 1) := by decide +kernel
theorem dMO_block_82 : decode cMO_block 82 = .ok (.iload 4, 2) := by decide +kernel
theorem dMO_block_84 : decode cMO_block 84 = .ok (.invokevirtual 209, 3) := by decide +kernel
theorem dMO_block_87 : decode cMO_block 87 = .ok (.istore 9, 2) := by decide +kernel
theorem dMO_block_89 : decode cMO_block 89 = .ok (.iload 9, 2) := by decide +kernel
theorem dMO_block_91 : decode cMO_block 91 = .ok (.ifCond .eq 10, 3) := by decide +kernel
theorem dMO_block_94 : decode cMO_block 94 = .ok (.aload_n 0, 1) := by decide +kernel
theorem dMO_block_95 : decode cMO_block 95 = .ok (.getfield 162, 3) := by decide +kernel
theorem dMO_block_98 : decode cMO_block 98 = .ok (.ifCond .eq 4, 3) := by decide +kernel
theorem dMO_block_101 : decode cMO_block 101 = .ok (.return_, 1) := by decide +kernel
theorem dMO_block_102 : decode cMO_block 102 = .ok (.iload 8, 2) := by decide +kernel
theorem dMO_block_104 : decode cMO_block 104 = .ok (.ifCond .ne 74, 3) := by decide +kernel
theorem dMO_block_107 : decode cMO_block 107 = .ok (.aload_n 0, 1) := by decide +kernel
theorem dMO_block_108 : decode cMO_block 108 = .ok (.iload_n 1, 1) := by decide +kernel
theorem dMO_block_109 : decode cMO_block 109 = .ok (.iload_n 2, 1) := by decide +kernel
theorem dMO_block_110 : decode cMO_block 110 = .ok (.iload_n 3, 1) := by decide +kernel
theorem dMO_block_111 : decode cMO_block 111 = .ok (.sipush 2448, 3) := by decide +kernel
theorem dMO_block_114 : decode cMO_block 114 = .ok (.iadd, 1) := by decide +kernel
theorem dMO_block_115 : decode cMO_block 115 = .ok (.iconst 1, 1) := by decide +kernel
theorem dMO_block_116 : decode cMO_block 116 = .ok (.iload 4, 2) := by decide +kernel
theorem dMO_block_118 : decode cMO_block 118 = .ok (.sipush 1000, 3) := by decide +kernel
theorem dMO_block_121 : decode cMO_block 121 = .ok (.invokevirtual 205, 3) := by decide +kernel
theorem dMO_block_124 : decode cMO_block 124 = .ok (.istore 10, 2) := by decide +kernel
theorem dMO_block_126 : decode cMO_block 126 = .ok (.aload_n 0, 1) := by decide +kernel
theorem dMO_block_127 : decode cMO_block 127 = .ok (.getfield 32, 3) := by decide +kernel
theorem dMO_block_130 : decode cMO_block 130 = .ok (.iload 6, 2) := by decide +kernel
theorem dMO_block_132 : decode cMO_block 132 = .ok (.aload_n 0, 1) := by decide +kernel
theorem dMO_block_133 : decode cMO_block 133 = .ok (.getfield 137, 3) := by decide +kernel
theorem dMO_block_136 : decode cMO_block 136 = .ok (.ifCond .eq 8, 3) := by decide +kernel
theorem dMO_block_139 : decode cMO_block 139 = .ok (.iload 10, 2) := by decide +kernel
theorem dMO_block_141 : decode cMO_block 141 = .ok (.goto 10, 3) := by decide +kernel
theorem dMO_block_144 : decode cMO_block 144 = .ok (.aload_n 0, 1) := by decide +kernel
theorem dMO_block_145 : decode cMO_block 145 = .ok (.getfield 32, 3) := by decide +kernel
theorem dMO_block_148 : decode cMO_block 148 = .ok (.iload 6, 2) := by decide +kernel
theorem dMO_block_150 : decode cMO_block 150 = .ok (.iaload, 1) := by decide +kernel
theorem dMO_block_151 : decode cMO_block 151 = .ok (.iastore, 1) := by decide +kernel
theorem dMO_block_152 : decode cMO_block 152 = .ok (.aload_n 0, 1) := by decide +kernel
theorem dMO_block_153 : decode cMO_block 153 = .ok (.getfield 35, 3) := by decide +kernel
theorem dMO_block_156 : decode cMO_block 156 = .ok (.iload 6, 2) := by decide +kernel
theorem dMO_block_158 : decode cMO_block 158 = .ok (.aload_n 0, 1) := by decide +kernel
theorem dMO_block_159 : decode cMO_block 159 = .ok (.getfield 137, 3) := by decide +kernel
theorem dMO_block_162 : decode cMO_block 162 = .ok (.ifCond .eq 8, 3) := by decide +kernel
theorem dMO_block_165 : decode cMO_block 165 = .ok (.iload 5, 2) := by decide +kernel
theorem dMO_block_167 : decode cMO_block 167 = .ok (.goto 10, 3) := by decide +kernel
theorem dMO_block_170 : decode cMO_block 170 = .ok (.aload_n 0, 1) := by decide +kernel
theorem dMO_block_171 : decode cMO_block 171 = .ok (.getfield 35, 3) := by decide +kernel
theorem dMO_block_174 : decode cMO_block 174 = .ok (.iload 6, 2) := by decide +kernel
theorem dMO_block_176 : decode cMO_block 176 = .ok (.iaload, 1) := by decide +kernel
theorem dMO_block_177 : decode cMO_block 177 = .ok (.iastore, 1) := by decide +kernel
theorem dMO_block_178 : decode cMO_block 178 = .ok (.aload_n 0, 1) := by decide +kernel
theorem dMO_block_179 : decode cMO_block 179 = .ok (.getfield 162, 3) := by decide +kernel
theorem dMO_block_182 : decode cMO_block 182 = .ok (.ifCond .ne 17, 3) := by decide +kernel
theorem dMO_block_185 : decode cMO_block 185 = .ok (.aload_n 0, 1) := by decide +kernel
theorem dMO_block_186 : decode cMO_block 186 = .ok (.aload_n 0, 1) := by decide +kernel
theorem dMO_block_187 : decode cMO_block 187 = .ok (.getfield 26, 3) := by decide +kernel
theorem dMO_block_190 : decode cMO_block 190 = .ok (.iload 7, 2) := by decide +kernel
theorem dMO_block_192 : decode cMO_block 192 = .ok (.iaload, 1) := by decide +kernel
theorem dMO_block_193 : decode cMO_block 193 = .ok (.invokevirtual 212, 3) := by decide +kernel
theorem dMO_block_196 : decode cMO_block 196 = .ok (.goto 4, 3) := by decide +kernel
theorem dMO_block_199 : decode cMO_block 199 = .ok (.iconst 1, 1) := by decide +kernel
theorem dMO_block_200 : decode cMO_block 200 = .ok (.istore 10, 2) := by decide +kernel
theorem dMO_block_202 : decode cMO_block 202 = .ok (.aload_n 0, 1) := by decide +kernel
theorem dMO_block_203 : decode cMO_block 203 = .ok (.getfield 162, 3) := by decide +kernel
theorem dMO_block_206 : decode cMO_block 206 = .ok (.ifCond .ne 21, 3) := by decide +kernel
theorem dMO_block_209 : decode cMO_block 209 = .ok (.aload_n 0, 1) := by decide +kernel
theorem dMO_block_210 : decode cMO_block 210 = .ok (.iload 6, 2) := by decide +kernel
theorem dMO_block_212 : decode cMO_block 212 = .ok (.iload 10, 2) := by decide +kernel
theorem dMO_block_214 : decode cMO_block 214 = .ok (.aload_n 0, 1) := by decide +kernel
theorem dMO_block_215 : decode cMO_block 215 = .ok (.getfield 29, 3) := by decide +kernel
theorem dMO_block_218 : decode cMO_block 218 = .ok (.iload 7, 2) := by decide +kernel
theorem dMO_block_220 : decode cMO_block 220 = .ok (.iaload, 1) := by decide +kernel
theorem dMO_block_221 : decode cMO_block 221 = .ok (.invokevirtual 215, 3) := by decide +kernel
theorem dMO_block_224 : decode cMO_block 224 = .ok (.goto 4, 3) := by decide +kernel
theorem dMO_block_227 : decode cMO_block 227 = .ok (.iconst 0, 1) := by decide +kernel
theorem dMO_block_228 : decode cMO_block 228 = .ok (.istore 11, 2) := by decide +kernel
theorem dMO_block_230 : decode cMO_block 230 = .ok (.aload_n 0, 1) := by decide +kernel
theorem dMO_block_231 : decode cMO_block 231 = .ok (.getfield 137, 3) := by decide +kernel
theorem dMO_block_234 : decode cMO_block 234 = .ok (.ifCond .eq 21, 3) := by decide +kernel
theorem dMO_block_237 : decode cMO_block 237 = .ok (.aload_n 0, 1) := by decide +kernel
theorem dMO_block_238 : decode cMO_block 238 = .ok (.getfield 38, 3) := by decide +kernel
theorem dMO_block_241 : decode cMO_block 241 = .ok (.iload 7, 2) := by decide +kernel
theorem dMO_block_243 : decode cMO_block 243 = .ok (.iload 10, 2) := by decide +kernel
theorem dMO_block_245 : decode cMO_block 245 = .ok (.iastore, 1) := by decide +kernel
theorem dMO_block_246 : decode cMO_block 246 = .ok (.aload_n 0, 1) := by decide +kernel
theorem dMO_block_247 : decode cMO_block 247 = .ok (.getfield 41, 3) := by decide +kernel
theorem dMO_block_250 : decode cMO_block 250 = .ok (.iload 7, 2) := by decide +kernel
theorem dMO_block_252 : decode cMO_block 252 = .ok (.iload 11, 2) := by decide +kernel
theorem dMO_block_254 : decode cMO_block 254 = .ok (.iastore, 1) := by decide +kernel
theorem dMO_block_255 : decode cMO_block 255 = .ok (.return_, 1) := by decide +kernel
abbrev cMO_head : ByteArray := prog_12_method_41_code
abbrev yMO_head : MethodName := ⟨"PacketRowsModel", "head", "(I)V"⟩
abbrev wsMO_head : List Cond := .code yMO_head cMO_head 10 (none) :: uU
theorem dMO_head_0 : decode cMO_head 0 = .ok (.aload_n 0, 1) := by decide +kernel
theorem dMO_head_1 : decode cMO_head 1 = .ok (.getfield 47, 3) := by decide +kernel
theorem dMO_head_4 : decode cMO_head 4 = .ok (.iconst 4, 1) := by decide +kernel
theorem dMO_head_5 : decode cMO_head 5 = .ok (.iload_n 1, 1) := by decide +kernel
theorem dMO_head_6 : decode cMO_head 6 = .ok (.imul, 1) := by decide +kernel
theorem dMO_head_7 : decode cMO_head 7 = .ok (.iaload, 1) := by decide +kernel
theorem dMO_head_8 : decode cMO_head 8 = .ok (.istore_n 2, 1) := by decide +kernel
theorem dMO_head_9 : decode cMO_head 9 = .ok (.iconst 4, 1) := by decide +kernel
theorem dMO_head_10 : decode cMO_head 10 = .ok (.aload_n 0, 1) := by decide +kernel
theorem dMO_head_11 : decode cMO_head 11 = .ok (.getfield 47, 3) := by decide +kernel
theorem dMO_head_14 : decode cMO_head 14 = .ok (.iconst 4, 1) := by decide +kernel
theorem dMO_head_15 : decode cMO_head 15 = .ok (.iload_n 1, 1) := by decide +kernel
theorem dMO_head_16 : decode cMO_head 16 = .ok (.imul, 1) := by decide +kernel
theorem dMO_head_17 : decode cMO_head 17 = .ok (.iconst 2, 1) := by decide +kernel
theorem dMO_head_18 : decode cMO_head 18 = .ok (.iadd, 1) := by decide +kernel
theorem dMO_head_19 : decode cMO_head 19 = .ok (.iaload, 1) := by decide +kernel
theorem dMO_head_20 : decode cMO_head 20 = .ok (.imul, 1) := by decide +kernel
theorem dMO_head_21 : decode cMO_head 21 = .ok (.aload_n 0, 1) := by decide +kernel
theorem dMO_head_22 : decode cMO_head 22 = .ok (.getfield 47, 3) := by decide +kernel
theorem dMO_head_25 : decode cMO_head 25 = .ok (.iconst 4, 1) := by decide +kernel
theorem dMO_head_26 : decode cMO_head 26 = .ok (.iload_n 1, 1) := by decide +kernel
theorem dMO_head_27 : decode cMO_head 27 = .ok (.imul, 1) := by decide +kernel
theorem dMO_head_28 : decode cMO_head 28 = .ok (.iconst 1, 1) := by decide +kernel
theorem dMO_head_29 : decode cMO_head 29 = .ok (.iadd, 1) := by decide +kernel
theorem dMO_head_30 : decode cMO_head 30 = .ok (.iaload, 1) := by decide +kernel
theorem dMO_head_31 : decode cMO_head 31 = .ok (.iadd, 1) := by decide +kernel
theorem dMO_head_32 : decode cMO_head 32 = .ok (.istore_n 3, 1) := by decide +kernel
theorem dMO_head_33 : decode cMO_head 33 = .ok (.aload_n 0, 1) := by decide +kernel
theorem dMO_head_34 : decode cMO_head 34 = .ok (.getfield 47, 3) := by decide +kernel
theorem dMO_head_37 : decode cMO_head 37 = .ok (.iconst 4, 1) := by decide +kernel
theorem dMO_head_38 : decode cMO_head 38 = .ok (.iload_n 1, 1) := by decide +kernel
theorem dMO_head_39 : decode cMO_head 39 = .ok (.imul, 1) := by decide +kernel
theorem dMO_head_40 : decode cMO_head 40 = .ok (.iconst 3, 1) := by decide +kernel
theorem dMO_head_41 : decode cMO_head 41 = .ok (.iadd, 1) := by decide +kernel
theorem dMO_head_42 : decode cMO_head 42 = .ok (.iaload, 1) := by decide +kernel
theorem dMO_head_43 : decode cMO_head 43 = .ok (.istore 4, 2) := by decide +kernel
theorem dMO_head_45 : decode cMO_head 45 = .ok (.aload_n 0, 1) := by decide +kernel
theorem dMO_head_46 : decode cMO_head 46 = .ok (.getfield 17, 3) := by decide +kernel
theorem dMO_head_49 : decode cMO_head 49 = .ok (.iload_n 3, 1) := by decide +kernel
theorem dMO_head_50 : decode cMO_head 50 = .ok (.iaload, 1) := by decide +kernel
theorem dMO_head_51 : decode cMO_head 51 = .ok (.aload_n 0, 1) := by decide +kernel
theorem dMO_head_52 : decode cMO_head 52 = .ok (.getfield 20, 3) := by decide +kernel
theorem dMO_head_55 : decode cMO_head 55 = .ok (.iload_n 3, 1) := by decide +kernel
theorem dMO_head_56 : decode cMO_head 56 = .ok (.iaload, 1) := by decide +kernel
theorem dMO_head_57 : decode cMO_head 57 = .ok (.imul, 1) := by decide +kernel
theorem dMO_head_58 : decode cMO_head 58 = .ok (.istore 5, 2) := by decide +kernel
theorem dMO_head_60 : decode cMO_head 60 = .ok (.sipush 144, 3) := by decide +kernel
theorem dMO_head_63 : decode cMO_head 63 = .ok (.iload_n 3, 1) := by decide +kernel
theorem dMO_head_64 : decode cMO_head 64 = .ok (.imul, 1) := by decide +kernel
theorem dMO_head_65 : decode cMO_head 65 = .ok (.iload 4, 2) := by decide +kernel
theorem dMO_head_67 : decode cMO_head 67 = .ok (.iload_n 3, 1) := by decide +kernel
theorem dMO_head_68 : decode cMO_head 68 = .ok (.invokestatic 94, 3) := by decide +kernel
theorem dMO_head_71 : decode cMO_head 71 = .ok (.imul, 1) := by decide +kernel
theorem dMO_head_72 : decode cMO_head 72 = .ok (.iload 5, 2) := by decide +kernel
theorem dMO_head_74 : decode cMO_head 74 = .ok (.imul, 1) := by decide +kernel
theorem dMO_head_75 : decode cMO_head 75 = .ok (.iadd, 1) := by decide +kernel
theorem dMO_head_76 : decode cMO_head 76 = .ok (.istore 6, 2) := by decide +kernel
theorem dMO_head_78 : decode cMO_head 78 = .ok (.iconst 0, 1) := by decide +kernel
theorem dMO_head_79 : decode cMO_head 79 = .ok (.istore 7, 2) := by decide +kernel
theorem dMO_head_81 : decode cMO_head 81 = .ok (.iload 6, 2) := by decide +kernel
theorem dMO_head_83 : decode cMO_head 83 = .ok (.istore 8, 2) := by decide +kernel
theorem dMO_head_85 : decode cMO_head 85 = .ok (.iload 8, 2) := by decide +kernel
theorem dMO_head_87 : decode cMO_head 87 = .ok (.iload 6, 2) := by decide +kernel
theorem dMO_head_89 : decode cMO_head 89 = .ok (.iload_n 3, 1) := by decide +kernel
theorem dMO_head_90 : decode cMO_head 90 = .ok (.invokestatic 94, 3) := by decide +kernel
theorem dMO_head_93 : decode cMO_head 93 = .ok (.iload 5, 2) := by decide +kernel
theorem dMO_head_95 : decode cMO_head 95 = .ok (.imul, 1) := by decide +kernel
theorem dMO_head_96 : decode cMO_head 96 = .ok (.iadd, 1) := by decide +kernel
theorem dMO_head_97 : decode cMO_head 97 = .ok (.if_icmp .ge 36, 3) := by decide +kernel
theorem dMO_head_100 : decode cMO_head 100 = .ok (.iload 7, 2) := by decide +kernel
theorem dMO_head_102 : decode cMO_head 102 = .ok (.ifCond .ne 18, 3) := by decide +kernel
theorem dMO_head_105 : decode cMO_head 105 = .ok (.aload_n 0, 1) := by decide +kernel
theorem dMO_head_106 : decode cMO_head 106 = .ok (.getfield 26, 3) := by decide +kernel
theorem dMO_head_109 : decode cMO_head 109 = .ok (.bipush 8, 2) := by decide +kernel
theorem dMO_head_111 : decode cMO_head 111 = .ok (.iload 8, 2) := by decide +kernel
theorem dMO_head_113 : decode cMO_head 113 = .ok (.imul, 1) := by decide +kernel
theorem dMO_head_114 : decode cMO_head 114 = .ok (.iload_n 2, 1) := by decide +kernel
theorem dMO_head_115 : decode cMO_head 115 = .ok (.iadd, 1) := by decide +kernel
theorem dMO_head_116 : decode cMO_head 116 = .ok (.iaload, 1) := by decide +kernel
theorem dMO_head_117 : decode cMO_head 117 = .ok (.ifCond .le 7, 3) := by decide +kernel
theorem dMO_head_120 : decode cMO_head 120 = .ok (.iconst 1, 1) := by decide +kernel
theorem dMO_head_121 : decode cMO_head 121 = .ok (.goto 4, 3) := by decide +kernel
theorem dMO_head_124 : decode cMO_head 124 = .ok (.iconst 0, 1) := by decide +kernel
theorem dMO_head_125 : decode cMO_head 125 = .ok (.istore 7, 2) := by decide +kernel
theorem dMO_head_127 : decode cMO_head 127 = .ok (.iinc 8 1, 3) := by decide +kernel
theorem dMO_head_130 : decode cMO_head 130 = .ok (.goto (-45), 3) := by decide +kernel
theorem dMO_head_133 : decode cMO_head 133 = .ok (.aload_n 0, 1) := by decide +kernel
theorem dMO_head_134 : decode cMO_head 134 = .ok (.invokevirtual 219, 3) := by decide +kernel
theorem dMO_head_137 : decode cMO_head 137 = .ok (.aload_n 0, 1) := by decide +kernel
theorem dMO_head_138 : decode cMO_head 138 = .ok (.iload 7, 2) := by decide +kernel
theorem dMO_head_140 : decode cMO_head 140 = .ok (.ifCond .eq 7, 3) := by decide +kernel
theorem dMO_head_143 : decode cMO_head 143 = .ok (.iconst 1, 1) := by decide +kernel
theorem dMO_head_144 : decode cMO_head 144 = .ok (.goto 4, 3) := by decide +kernel
theorem dMO_head_147 : decode cMO_head 147 = .ok (.iconst 0, 1) := by decide +kernel
theorem dMO_head_148 : decode cMO_head 148 = .ok (.invokevirtual 176, 3) := by decide +kernel
theorem dMO_head_151 : decode cMO_head 151 = .ok (.iconst 1, 1) := by decide +kernel
theorem dMO_head_152 : decode cMO_head 152 = .ok (.if_icmp .ne 71, 3) := by decide +kernel
theorem dMO_head_155 : decode cMO_head 155 = .ok (.iconst 0, 1) := by decide +kernel
theorem dMO_head_156 : decode cMO_head 156 = .ok (.istore 8, 2) := by decide +kernel
theorem dMO_head_158 : decode cMO_head 158 = .ok (.iload 8, 2) := by decide +kernel
theorem dMO_head_160 : decode cMO_head 160 = .ok (.iload_n 3, 1) := by decide +kernel
theorem dMO_head_161 : decode cMO_head 161 = .ok (.invokestatic 94, 3) := by decide +kernel
theorem dMO_head_164 : decode cMO_head 164 = .ok (.iload 5, 2) := by decide +kernel
theorem dMO_head_166 : decode cMO_head 166 = .ok (.imul, 1) := by decide +kernel
theorem dMO_head_167 : decode cMO_head 167 = .ok (.if_icmp .ge 56, 3) := by decide +kernel
theorem dMO_head_170 : decode cMO_head 170 = .ok (.aload_n 0, 1) := by decide +kernel
theorem dMO_head_171 : decode cMO_head 171 = .ok (.getfield 162, 3) := by decide +kernel
theorem dMO_head_174 : decode cMO_head 174 = .ok (.ifCond .ne 49, 3) := by decide +kernel
theorem dMO_head_177 : decode cMO_head 177 = .ok (.iload 8, 2) := by decide +kernel
theorem dMO_head_179 : decode cMO_head 179 = .ok (.iload 5, 2) := by decide +kernel
theorem dMO_head_181 : decode cMO_head 181 = .ok (.idiv, 1) := by decide +kernel
theorem dMO_head_182 : decode cMO_head 182 = .ok (.istore 9, 2) := by decide +kernel
theorem dMO_head_184 : decode cMO_head 184 = .ok (.aload_n 0, 1) := by decide +kernel
theorem dMO_head_185 : decode cMO_head 185 = .ok (.iload_n 3, 1) := by decide +kernel
theorem dMO_head_186 : decode cMO_head 186 = .ok (.iload 6, 2) := by decide +kernel
theorem dMO_head_188 : decode cMO_head 188 = .ok (.iload 9, 2) := by decide +kernel
theorem dMO_head_190 : decode cMO_head 190 = .ok (.iload 5, 2) := by decide +kernel
theorem dMO_head_192 : decode cMO_head 192 = .ok (.imul, 1) := by decide +kernel
theorem dMO_head_193 : decode cMO_head 193 = .ok (.iadd, 1) := by decide +kernel
theorem dMO_head_194 : decode cMO_head 194 = .ok (.bipush 17, 2) := by decide +kernel
theorem dMO_head_196 : decode cMO_head 196 = .ok (.iconst 4, 1) := by decide +kernel
theorem dMO_head_197 : decode cMO_head 197 = .ok (.iload_n 3, 1) := by decide +kernel
theorem dMO_head_198 : decode cMO_head 198 = .ok (.imul, 1) := by decide +kernel
theorem dMO_head_199 : decode cMO_head 199 = .ok (.iload 4, 2) := by decide +kernel
theorem dMO_head_201 : decode cMO_head 201 = .ok (.iadd, 1) := by decide +kernel
theorem dMO_head_202 : decode cMO_head 202 = .ok (.iconst 3, 1) := by decide +kernel
theorem dMO_head_203 : decode cMO_head 203 = .ok (.imul, 1) := by decide +kernel
theorem dMO_head_204 : decode cMO_head 204 = .ok (.iload 9, 2) := by decide +kernel
theorem dMO_head_206 : decode cMO_head 206 = .ok (.iadd, 1) := by decide +kernel
theorem dMO_head_207 : decode cMO_head 207 = .ok (.imul, 1) := by decide +kernel
theorem dMO_head_208 : decode cMO_head 208 = .ok (.iload 8, 2) := by decide +kernel
theorem dMO_head_210 : decode cMO_head 210 = .ok (.iload 5, 2) := by decide +kernel
theorem dMO_head_212 : decode cMO_head 212 = .ok (.irem, 1) := by decide +kernel
theorem dMO_head_213 : decode cMO_head 213 = .ok (.iload_n 2, 1) := by decide +kernel
theorem dMO_head_214 : decode cMO_head 214 = .ok (.invokevirtual 222, 3) := by decide +kernel
theorem dMO_head_217 : decode cMO_head 217 = .ok (.iinc 8 1, 3) := by decide +kernel
theorem dMO_head_220 : decode cMO_head 220 = .ok (.goto (-62), 3) := by decide +kernel
theorem dMO_head_223 : decode cMO_head 223 = .ok (.aload_n 0, 1) := by decide +kernel
theorem dMO_head_224 : decode cMO_head 224 = .ok (.invokevirtual 226, 3) := by decide +kernel
theorem dMO_head_227 : decode cMO_head 227 = .ok (.return_, 1) := by decide +kernel
abbrev cMO_heads : ByteArray := prog_12_method_42_code
abbrev yMO_heads : MethodName := ⟨"PacketRowsModel", "heads", "(Z)V"⟩
abbrev wsMO_heads : List Cond := .code yMO_heads cMO_heads 3 (none) :: uU
theorem dMO_heads_0 : decode cMO_heads 0 = .ok (.aload_n 0, 1) := by decide +kernel
theorem dMO_heads_1 : decode cMO_heads 1 = .ok (.iload_n 1, 1) := by decide +kernel
theorem dMO_heads_2 : decode cMO_heads 2 = .ok (.putfield 137, 3) := by decide +kernel
theorem dMO_heads_5 : decode cMO_heads 5 = .ok (.aload_n 0, 1) := by decide +kernel
theorem dMO_heads_6 : decode cMO_heads 6 = .ok (.iconst 0, 1) := by decide +kernel
theorem dMO_heads_7 : decode cMO_heads 7 = .ok (.putfield 162, 3) := by decide +kernel
theorem dMO_heads_10 : decode cMO_heads 10 = .ok (.aload_n 0, 1) := by decide +kernel
theorem dMO_heads_11 : decode cMO_heads 11 = .ok (.iconst 0, 1) := by decide +kernel
theorem dMO_heads_12 : decode cMO_heads 12 = .ok (.putfield 156, 3) := by decide +kernel
theorem dMO_heads_15 : decode cMO_heads 15 = .ok (.aload_n 0, 1) := by decide +kernel
theorem dMO_heads_16 : decode cMO_heads 16 = .ok (.iconst 0, 1) := by decide +kernel
theorem dMO_heads_17 : decode cMO_heads 17 = .ok (.putfield 149, 3) := by decide +kernel
theorem dMO_heads_20 : decode cMO_heads 20 = .ok (.iconst 0, 1) := by decide +kernel
theorem dMO_heads_21 : decode cMO_heads 21 = .ok (.istore_n 2, 1) := by decide +kernel
theorem dMO_heads_22 : decode cMO_heads 22 = .ok (.iload_n 2, 1) := by decide +kernel
theorem dMO_heads_23 : decode cMO_heads 23 = .ok (.sipush 1728, 3) := by decide +kernel
theorem dMO_heads_26 : decode cMO_heads 26 = .ok (.if_icmp .ge 16, 3) := by decide +kernel
theorem dMO_heads_29 : decode cMO_heads 29 = .ok (.aload_n 0, 1) := by decide +kernel
theorem dMO_heads_30 : decode cMO_heads 30 = .ok (.getfield 60, 3) := by decide +kernel
theorem dMO_heads_33 : decode cMO_heads 33 = .ok (.iload_n 2, 1) := by decide +kernel
theorem dMO_heads_34 : decode cMO_heads 34 = .ok (.iconst 3, 1) := by decide +kernel
theorem dMO_heads_35 : decode cMO_heads 35 = .ok (.iastore, 1) := by decide +kernel
theorem dMO_heads_36 : decode cMO_heads 36 = .ok (.iinc 2 1, 3) := by decide +kernel
theorem dMO_heads_39 : decode cMO_heads 39 = .ok (.goto (-17), 3) := by decide +kernel
theorem dMO_heads_42 : decode cMO_heads 42 = .ok (.iconst 0, 1) := by decide +kernel
theorem dMO_heads_43 : decode cMO_heads 43 = .ok (.istore_n 2, 1) := by decide +kernel
theorem dMO_heads_44 : decode cMO_heads 44 = .ok (.iload_n 2, 1) := by decide +kernel
theorem dMO_heads_45 : decode cMO_heads 45 = .ok (.sipush 4896, 3) := by decide +kernel
theorem dMO_heads_48 : decode cMO_heads 48 = .ok (.if_icmp .ge 23, 3) := by decide +kernel
theorem dMO_heads_51 : decode cMO_heads 51 = .ok (.aload_n 0, 1) := by decide +kernel
theorem dMO_heads_52 : decode cMO_heads 52 = .ok (.getfield 63, 3) := by decide +kernel
theorem dMO_heads_55 : decode cMO_heads 55 = .ok (.iload_n 2, 1) := by decide +kernel
theorem dMO_heads_56 : decode cMO_heads 56 = .ok (.iconst 0, 1) := by decide +kernel
theorem dMO_heads_57 : decode cMO_heads 57 = .ok (.iastore, 1) := by decide +kernel
theorem dMO_heads_58 : decode cMO_heads 58 = .ok (.aload_n 0, 1) := by decide +kernel
theorem dMO_heads_59 : decode cMO_heads 59 = .ok (.getfield 66, 3) := by decide +kernel
theorem dMO_heads_62 : decode cMO_heads 62 = .ok (.iload_n 2, 1) := by decide +kernel
theorem dMO_heads_63 : decode cMO_heads 63 = .ok (.iconst 0, 1) := by decide +kernel
theorem dMO_heads_64 : decode cMO_heads 64 = .ok (.bastore, 1) := by decide +kernel
theorem dMO_heads_65 : decode cMO_heads 65 = .ok (.iinc 2 1, 3) := by decide +kernel
theorem dMO_heads_68 : decode cMO_heads 68 = .ok (.goto (-24), 3) := by decide +kernel
theorem dMO_heads_71 : decode cMO_heads 71 = .ok (.aload_n 0, 1) := by decide +kernel
theorem dMO_heads_72 : decode cMO_heads 72 = .ok (.invokevirtual 134, 3) := by decide +kernel
theorem dMO_heads_75 : decode cMO_heads 75 = .ok (.return_, 1) := by decide +kernel
abbrev cMO_write : ByteArray := prog_12_method_43_code
abbrev yMO_write : MethodName := ⟨"PacketRowsModel", "write", "()I"⟩
abbrev wsMO_write : List Cond := .code yMO_write cMO_write 3 (some .int) :: uU
theorem dMO_write_0 : decode cMO_write 0 = .ok (.aload_n 0, 1) := by decide +kernel
theorem dMO_write_1 : decode cMO_write 1 = .ok (.iconst 0, 1) := by decide +kernel
theorem dMO_write_2 : decode cMO_write 2 = .ok (.putfield 91, 3) := by decide +kernel
theorem dMO_write_5 : decode cMO_write 5 = .ok (.aload_n 0, 1) := by decide +kernel
theorem dMO_write_6 : decode cMO_write 6 = .ok (.getfield 162, 3) := by decide +kernel
theorem dMO_write_9 : decode cMO_write 9 = .ok (.istore_n 1, 1) := by decide +kernel
theorem dMO_write_10 : decode cMO_write 10 = .ok (.aload_n 0, 1) := by decide +kernel
theorem dMO_write_11 : decode cMO_write 11 = .ok (.iconst 0, 1) := by decide +kernel
theorem dMO_write_12 : decode cMO_write 12 = .ok (.invokevirtual 229, 3) := by decide +kernel
theorem dMO_write_15 : decode cMO_write 15 = .ok (.aload_n 0, 1) := by decide +kernel
theorem dMO_write_16 : decode cMO_write 16 = .ok (.iconst 0, 1) := by decide +kernel
theorem dMO_write_17 : decode cMO_write 17 = .ok (.putfield 162, 3) := by decide +kernel
theorem dMO_write_20 : decode cMO_write 20 = .ok (.iconst 0, 1) := by decide +kernel
theorem dMO_write_21 : decode cMO_write 21 = .ok (.istore_n 2, 1) := by decide +kernel
theorem dMO_write_22 : decode cMO_write 22 = .ok (.iload_n 2, 1) := by decide +kernel
theorem dMO_write_23 : decode cMO_write 23 = .ok (.aload_n 0, 1) := by decide +kernel
theorem dMO_write_24 : decode cMO_write 24 = .ok (.getfield 127, 3) := by decide +kernel
theorem dMO_write_27 : decode cMO_write 27 = .ok (.if_icmp .ge 24, 3) := by decide +kernel
theorem dMO_write_30 : decode cMO_write 30 = .ok (.aload_n 0, 1) := by decide +kernel
theorem dMO_write_31 : decode cMO_write 31 = .ok (.getfield 78, 3) := by decide +kernel
theorem dMO_write_34 : decode cMO_write 34 = .ok (.iload_n 2, 1) := by decide +kernel
theorem dMO_write_35 : decode cMO_write 35 = .ok (.aload_n 0, 1) := by decide +kernel
theorem dMO_write_36 : decode cMO_write 36 = .ok (.getfield 149, 3) := by decide +kernel
theorem dMO_write_39 : decode cMO_write 39 = .ok (.iastore, 1) := by decide +kernel
theorem dMO_write_40 : decode cMO_write 40 = .ok (.aload_n 0, 1) := by decide +kernel
theorem dMO_write_41 : decode cMO_write 41 = .ok (.iload_n 2, 1) := by decide +kernel
theorem dMO_write_42 : decode cMO_write 42 = .ok (.invokevirtual 233, 3) := by decide +kernel
theorem dMO_write_45 : decode cMO_write 45 = .ok (.iinc 2 1, 3) := by decide +kernel
theorem dMO_write_48 : decode cMO_write 48 = .ok (.goto (-26), 3) := by decide +kernel
theorem dMO_write_51 : decode cMO_write 51 = .ok (.aload_n 0, 1) := by decide +kernel
theorem dMO_write_52 : decode cMO_write 52 = .ok (.iload_n 1, 1) := by decide +kernel
theorem dMO_write_53 : decode cMO_write 53 = .ok (.putfield 162, 3) := by decide +kernel
theorem dMO_write_56 : decode cMO_write 56 = .ok (.aload_n 0, 1) := by decide +kernel
theorem dMO_write_57 : decode cMO_write 57 = .ok (.getfield 149, 3) := by decide +kernel
theorem dMO_write_60 : decode cMO_write 60 = .ok (.sipush 6000, 3) := by decide +kernel
theorem dMO_write_63 : decode cMO_write 63 = .ok (.if_icmp .le 10, 3) := by decide +kernel
theorem dMO_write_66 : decode cMO_write 66 = .ok (.aload_n 0, 1) := by decide +kernel
theorem dMO_write_67 : decode cMO_write 67 = .ok (.iconst 0, 1) := by decide +kernel
theorem dMO_write_68 : decode cMO_write 68 = .ok (.putfield 101, 3) := by decide +kernel
theorem dMO_write_71 : decode cMO_write 71 = .ok (.iconst (-1), 1) := by decide +kernel
theorem dMO_write_72 : decode cMO_write 72 = .ok (.ireturn, 1) := by decide +kernel
theorem dMO_write_73 : decode cMO_write 73 = .ok (.aload_n 0, 1) := by decide +kernel
theorem dMO_write_74 : decode cMO_write 74 = .ok (.aload_n 0, 1) := by decide +kernel
theorem dMO_write_75 : decode cMO_write 75 = .ok (.getfield 149, 3) := by decide +kernel
theorem dMO_write_78 : decode cMO_write 78 = .ok (.putfield 159, 3) := by decide +kernel
theorem dMO_write_81 : decode cMO_write 81 = .ok (.iconst 0, 1) := by decide +kernel
theorem dMO_write_82 : decode cMO_write 82 = .ok (.istore_n 2, 1) := by decide +kernel
theorem dMO_write_83 : decode cMO_write 83 = .ok (.iload_n 2, 1) := by decide +kernel
theorem dMO_write_84 : decode cMO_write 84 = .ok (.aload_n 0, 1) := by decide +kernel
theorem dMO_write_85 : decode cMO_write 85 = .ok (.getfield 159, 3) := by decide +kernel
theorem dMO_write_88 : decode cMO_write 88 = .ok (.if_icmp .ge 21, 3) := by decide +kernel
theorem dMO_write_91 : decode cMO_write 91 = .ok (.aload_n 0, 1) := by decide +kernel
theorem dMO_write_92 : decode cMO_write 92 = .ok (.getfield 57, 3) := by decide +kernel
theorem dMO_write_95 : decode cMO_write 95 = .ok (.iload_n 2, 1) := by decide +kernel
theorem dMO_write_96 : decode cMO_write 96 = .ok (.aload_n 0, 1) := by decide +kernel
theorem dMO_write_97 : decode cMO_write 97 = .ok (.getfield 69, 3) := by decide +kernel
theorem dMO_write_100 : decode cMO_write 100 = .ok (.iload_n 2, 1) := by decide +kernel
theorem dMO_write_101 : decode cMO_write 101 = .ok (.iaload, 1) := by decide +kernel
theorem dMO_write_102 : decode cMO_write 102 = .ok (.iastore, 1) := by decide +kernel
theorem dMO_write_103 : decode cMO_write 103 = .ok (.iinc 2 1, 3) := by decide +kernel
theorem dMO_write_106 : decode cMO_write 106 = .ok (.goto (-23), 3) := by decide +kernel
theorem dMO_write_109 : decode cMO_write 109 = .ok (.iconst 0, 1) := by decide +kernel
theorem dMO_write_110 : decode cMO_write 110 = .ok (.istore_n 2, 1) := by decide +kernel
theorem dMO_write_111 : decode cMO_write 111 = .ok (.iload_n 2, 1) := by decide +kernel
theorem dMO_write_112 : decode cMO_write 112 = .ok (.aload_n 0, 1) := by decide +kernel
theorem dMO_write_113 : decode cMO_write 113 = .ok (.getfield 127, 3) := by decide +kernel
theorem dMO_write_116 : decode cMO_write 116 = .ok (.if_icmp .ge 21, 3) := by decide +kernel
theorem dMO_write_119 : decode cMO_write 119 = .ok (.aload_n 0, 1) := by decide +kernel
theorem dMO_write_120 : decode cMO_write 120 = .ok (.getfield 54, 3) := by decide +kernel
theorem dMO_write_123 : decode cMO_write 123 = .ok (.iload_n 2, 1) := by decide +kernel
theorem dMO_write_124 : decode cMO_write 124 = .ok (.aload_n 0, 1) := by decide +kernel
theorem dMO_write_125 : decode cMO_write 125 = .ok (.getfield 78, 3) := by decide +kernel
theorem dMO_write_128 : decode cMO_write 128 = .ok (.iload_n 2, 1) := by decide +kernel
theorem dMO_write_129 : decode cMO_write 129 = .ok (.iaload, 1) := by decide +kernel
theorem dMO_write_130 : decode cMO_write 130 = .ok (.iastore, 1) := by decide +kernel
theorem dMO_write_131 : decode cMO_write 131 = .ok (.iinc 2 1, 3) := by decide +kernel
theorem dMO_write_134 : decode cMO_write 134 = .ok (.goto (-23), 3) := by decide +kernel
theorem dMO_write_137 : decode cMO_write 137 = .ok (.aload_n 0, 1) := by decide +kernel
theorem dMO_write_138 : decode cMO_write 138 = .ok (.iconst 1, 1) := by decide +kernel
theorem dMO_write_139 : decode cMO_write 139 = .ok (.putfield 101, 3) := by decide +kernel
theorem dMO_write_142 : decode cMO_write 142 = .ok (.aload_n 0, 1) := by decide +kernel
theorem dMO_write_143 : decode cMO_write 143 = .ok (.getfield 159, 3) := by decide +kernel
theorem dMO_write_146 : decode cMO_write 146 = .ok (.ireturn, 1) := by decide +kernel
abbrev cMO_feed : ByteArray := prog_12_method_44_code
abbrev yMO_feed : MethodName := ⟨"PacketRowsModel", "feed", "(IJ)I"⟩
abbrev wsMO_feed : List Cond := .code yMO_feed cMO_feed 5 (some .int) :: uU
theorem dMO_feed_0 : decode cMO_feed 0 = .ok (.aload_n 0, 1) := by decide +kernel
theorem dMO_feed_1 : decode cMO_feed 1 = .ok (.iload_n 1, 1) := by decide +kernel
theorem dMO_feed_2 : decode cMO_feed 2 = .ok (.iconst 1, 1) := by decide +kernel
theorem dMO_feed_3 : decode cMO_feed 3 = .ok (.bipush 8, 2) := by decide +kernel
theorem dMO_feed_5 : decode cMO_feed 5 = .ok (.invokestatic 105, 3) := by decide +kernel
theorem dMO_feed_8 : decode cMO_feed 8 = .ok (.iconst 1, 1) := by decide +kernel
theorem dMO_feed_9 : decode cMO_feed 9 = .ok (.invokevirtual 109, 3) := by decide +kernel
theorem dMO_feed_12 : decode cMO_feed 12 = .ok (.ifCond .ne 5, 3) := by decide +kernel
theorem dMO_feed_15 : decode cMO_feed 15 = .ok (.iconst 0, 1) := by decide +kernel
theorem dMO_feed_16 : decode cMO_feed 16 = .ok (.ireturn, 1) := by decide +kernel
theorem dMO_feed_17 : decode cMO_feed 17 = .ok (.aload_n 0, 1) := by decide +kernel
theorem dMO_feed_18 : decode cMO_feed 18 = .ok (.getfield 159, 3) := by decide +kernel
theorem dMO_feed_21 : decode cMO_feed 21 = .ok (.iload_n 1, 1) := by decide +kernel
theorem dMO_feed_22 : decode cMO_feed 22 = .ok (.iadd, 1) := by decide +kernel
theorem dMO_feed_23 : decode cMO_feed 23 = .ok (.sipush 6000, 3) := by decide +kernel
theorem dMO_feed_26 : decode cMO_feed 26 = .ok (.if_icmp .le 5, 3) := by decide +kernel
theorem dMO_feed_29 : decode cMO_feed 29 = .ok (.iconst (-1), 1) := by decide +kernel
theorem dMO_feed_30 : decode cMO_feed 30 = .ok (.ireturn, 1) := by decide +kernel
theorem dMO_feed_31 : decode cMO_feed 31 = .ok (.iconst 0, 1) := by decide +kernel
theorem dMO_feed_32 : decode cMO_feed 32 = .ok (.istore 4, 2) := by decide +kernel
theorem dMO_feed_34 : decode cMO_feed 34 = .ok (.iload 4, 2) := by decide +kernel
theorem dMO_feed_36 : decode cMO_feed 36 = .ok (.iload_n 1, 1) := by decide +kernel
theorem dMO_feed_37 : decode cMO_feed 37 = .ok (.if_icmp .ge 33, 3) := by decide +kernel
theorem dMO_feed_40 : decode cMO_feed 40 = .ok (.aload_n 0, 1) := by decide +kernel
theorem dMO_feed_41 : decode cMO_feed 41 = .ok (.getfield 57, 3) := by decide +kernel
theorem dMO_feed_44 : decode cMO_feed 44 = .ok (.aload_n 0, 1) := by decide +kernel
theorem dMO_feed_45 : decode cMO_feed 45 = .ok (.getfield 159, 3) := by decide +kernel
theorem dMO_feed_48 : decode cMO_feed 48 = .ok (.iload 4, 2) := by decide +kernel
theorem dMO_feed_50 : decode cMO_feed 50 = .ok (.iadd, 1) := by decide +kernel
theorem dMO_feed_51 : decode cMO_feed 51 = .ok (.lload_n 2, 1) := by decide +kernel
theorem dMO_feed_52 : decode cMO_feed 52 = .ok (.bipush 8, 2) := by decide +kernel
theorem dMO_feed_54 : decode cMO_feed 54 = .ok (.iload 4, 2) := by decide +kernel
theorem dMO_feed_56 : decode cMO_feed 56 = .ok (.imul, 1) := by decide +kernel
theorem dMO_feed_57 : decode cMO_feed 57 = .ok (.lshr, 1) := by decide +kernel
theorem dMO_feed_58 : decode cMO_feed 58 = .ok (.ldc2_w 236, 3) := by decide +kernel
theorem dMO_feed_61 : decode cMO_feed 61 = .ok (.land, 1) := by decide +kernel
theorem dMO_feed_62 : decode cMO_feed 62 = .ok (.l2i, 1) := by decide +kernel
theorem dMO_feed_63 : decode cMO_feed 63 = .ok (.iastore, 1) := by decide +kernel
theorem dMO_feed_64 : decode cMO_feed 64 = .ok (.iinc 4 1, 3) := by decide +kernel
theorem dMO_feed_67 : decode cMO_feed 67 = .ok (.goto (-33), 3) := by decide +kernel
theorem dMO_feed_70 : decode cMO_feed 70 = .ok (.aload_n 0, 1) := by decide +kernel
theorem dMO_feed_71 : decode cMO_feed 71 = .ok (.aload_n 0, 1) := by decide +kernel
theorem dMO_feed_72 : decode cMO_feed 72 = .ok (.getfield 159, 3) := by decide +kernel
theorem dMO_feed_75 : decode cMO_feed 75 = .ok (.iload_n 1, 1) := by decide +kernel
theorem dMO_feed_76 : decode cMO_feed 76 = .ok (.iadd, 1) := by decide +kernel
theorem dMO_feed_77 : decode cMO_feed 77 = .ok (.putfield 159, 3) := by decide +kernel
theorem dMO_feed_80 : decode cMO_feed 80 = .ok (.aload_n 0, 1) := by decide +kernel
theorem dMO_feed_81 : decode cMO_feed 81 = .ok (.getfield 159, 3) := by decide +kernel
theorem dMO_feed_84 : decode cMO_feed 84 = .ok (.ireturn, 1) := by decide +kernel
abbrev cMO_wipe : ByteArray := prog_12_method_45_code
abbrev yMO_wipe : MethodName := ⟨"PacketRowsModel", "wipe", "()I"⟩
abbrev wsMO_wipe : List Cond := .code yMO_wipe cMO_wipe 2 (some .int) :: uU
theorem dMO_wipe_0 : decode cMO_wipe 0 = .ok (.aload_n 0, 1) := by decide +kernel
theorem dMO_wipe_1 : decode cMO_wipe 1 = .ok (.iconst 0, 1) := by decide +kernel
theorem dMO_wipe_2 : decode cMO_wipe 2 = .ok (.putfield 91, 3) := by decide +kernel
theorem dMO_wipe_5 : decode cMO_wipe 5 = .ok (.aload_n 0, 1) := by decide +kernel
theorem dMO_wipe_6 : decode cMO_wipe 6 = .ok (.getfield 159, 3) := by decide +kernel
theorem dMO_wipe_9 : decode cMO_wipe 9 = .ok (.istore_n 1, 1) := by decide +kernel
theorem dMO_wipe_10 : decode cMO_wipe 10 = .ok (.aload_n 0, 1) := by decide +kernel
theorem dMO_wipe_11 : decode cMO_wipe 11 = .ok (.iconst 0, 1) := by decide +kernel
theorem dMO_wipe_12 : decode cMO_wipe 12 = .ok (.putfield 159, 3) := by decide +kernel
theorem dMO_wipe_15 : decode cMO_wipe 15 = .ok (.iload_n 1, 1) := by decide +kernel
theorem dMO_wipe_16 : decode cMO_wipe 16 = .ok (.ireturn, 1) := by decide +kernel
abbrev cMO_byteAt : ByteArray := prog_12_method_46_code
abbrev yMO_byteAt : MethodName := ⟨"PacketRowsModel", "byteAt", "(I)I"⟩
abbrev wsMO_byteAt : List Cond := .code yMO_byteAt cMO_byteAt 2 (some .int) :: uU
theorem dMO_byteAt_0 : decode cMO_byteAt 0 = .ok (.aload_n 0, 1) := by decide +kernel
theorem dMO_byteAt_1 : decode cMO_byteAt 1 = .ok (.iconst 0, 1) := by decide +kernel
theorem dMO_byteAt_2 : decode cMO_byteAt 2 = .ok (.putfield 91, 3) := by decide +kernel
theorem dMO_byteAt_5 : decode cMO_byteAt 5 = .ok (.iload_n 1, 1) := by decide +kernel
theorem dMO_byteAt_6 : decode cMO_byteAt 6 = .ok (.iconst 0, 1) := by decide +kernel
theorem dMO_byteAt_7 : decode cMO_byteAt 7 = .ok (.aload_n 0, 1) := by decide +kernel
theorem dMO_byteAt_8 : decode cMO_byteAt 8 = .ok (.getfield 159, 3) := by decide +kernel
theorem dMO_byteAt_11 : decode cMO_byteAt 11 = .ok (.iconst 1, 1) := by decide +kernel
theorem dMO_byteAt_12 : decode cMO_byteAt 12 = .ok (.isub, 1) := by decide +kernel
theorem dMO_byteAt_13 : decode cMO_byteAt 13 = .ok (.invokestatic 105, 3) := by decide +kernel
theorem dMO_byteAt_16 : decode cMO_byteAt 16 = .ok (.ifCond .eq 12, 3) := by decide +kernel
theorem dMO_byteAt_19 : decode cMO_byteAt 19 = .ok (.aload_n 0, 1) := by decide +kernel
theorem dMO_byteAt_20 : decode cMO_byteAt 20 = .ok (.getfield 57, 3) := by decide +kernel
theorem dMO_byteAt_23 : decode cMO_byteAt 23 = .ok (.iload_n 1, 1) := by decide +kernel
theorem dMO_byteAt_24 : decode cMO_byteAt 24 = .ok (.iaload, 1) := by decide +kernel
theorem dMO_byteAt_25 : decode cMO_byteAt 25 = .ok (.goto 4, 3) := by decide +kernel
theorem dMO_byteAt_28 : decode cMO_byteAt 28 = .ok (.iconst (-1), 1) := by decide +kernel
theorem dMO_byteAt_29 : decode cMO_byteAt 29 = .ok (.ireturn, 1) := by decide +kernel
abbrev cMO_read : ByteArray := prog_12_method_47_code
abbrev yMO_read : MethodName := ⟨"PacketRowsModel", "read", "()I"⟩
abbrev wsMO_read : List Cond := .code yMO_read cMO_read 2 (some .int) :: uU
theorem dMO_read_0 : decode cMO_read 0 = .ok (.aload_n 0, 1) := by decide +kernel
theorem dMO_read_1 : decode cMO_read 1 = .ok (.iconst 0, 1) := by decide +kernel
theorem dMO_read_2 : decode cMO_read 2 = .ok (.putfield 91, 3) := by decide +kernel
theorem dMO_read_5 : decode cMO_read 5 = .ok (.aload_n 0, 1) := by decide +kernel
theorem dMO_read_6 : decode cMO_read 6 = .ok (.iconst 0, 1) := by decide +kernel
theorem dMO_read_7 : decode cMO_read 7 = .ok (.sipush 1728, 3) := by decide +kernel
theorem dMO_read_10 : decode cMO_read 10 = .ok (.invokevirtual 87, 3) := by decide +kernel
theorem dMO_read_13 : decode cMO_read 13 = .ok (.aload_n 0, 1) := by decide +kernel
theorem dMO_read_14 : decode cMO_read 14 = .ok (.iconst 1, 1) := by decide +kernel
theorem dMO_read_15 : decode cMO_read 15 = .ok (.invokevirtual 229, 3) := by decide +kernel
theorem dMO_read_18 : decode cMO_read 18 = .ok (.iconst 0, 1) := by decide +kernel
theorem dMO_read_19 : decode cMO_read 19 = .ok (.istore_n 1, 1) := by decide +kernel
theorem dMO_read_20 : decode cMO_read 20 = .ok (.iload_n 1, 1) := by decide +kernel
theorem dMO_read_21 : decode cMO_read 21 = .ok (.aload_n 0, 1) := by decide +kernel
theorem dMO_read_22 : decode cMO_read 22 = .ok (.getfield 127, 3) := by decide +kernel
theorem dMO_read_25 : decode cMO_read 25 = .ok (.if_icmp .ge 21, 3) := by decide +kernel
theorem dMO_read_28 : decode cMO_read 28 = .ok (.aload_n 0, 1) := by decide +kernel
theorem dMO_read_29 : decode cMO_read 29 = .ok (.getfield 162, 3) := by decide +kernel
theorem dMO_read_32 : decode cMO_read 32 = .ok (.ifCond .ne 14, 3) := by decide +kernel
theorem dMO_read_35 : decode cMO_read 35 = .ok (.aload_n 0, 1) := by decide +kernel
theorem dMO_read_36 : decode cMO_read 36 = .ok (.iload_n 1, 1) := by decide +kernel
theorem dMO_read_37 : decode cMO_read 37 = .ok (.invokevirtual 233, 3) := by decide +kernel
theorem dMO_read_40 : decode cMO_read 40 = .ok (.iinc 1 1, 3) := by decide +kernel
theorem dMO_read_43 : decode cMO_read 43 = .ok (.goto (-23), 3) := by decide +kernel
theorem dMO_read_46 : decode cMO_read 46 = .ok (.aload_n 0, 1) := by decide +kernel
theorem dMO_read_47 : decode cMO_read 47 = .ok (.aload_n 0, 1) := by decide +kernel
theorem dMO_read_48 : decode cMO_read 48 = .ok (.getfield 162, 3) := by decide +kernel
theorem dMO_read_51 : decode cMO_read 51 = .ok (.ifCond .ne 10, 3) := by decide +kernel
theorem dMO_read_54 : decode cMO_read 54 = .ok (.aload_n 0, 1) := by decide +kernel
theorem dMO_read_55 : decode cMO_read 55 = .ok (.getfield 156, 3) := by decide +kernel
theorem dMO_read_58 : decode cMO_read 58 = .ok (.goto 4, 3) := by decide +kernel
theorem dMO_read_61 : decode cMO_read 61 = .ok (.iconst 0, 1) := by decide +kernel
theorem dMO_read_62 : decode cMO_read 62 = .ok (.putfield 238, 3) := by decide +kernel
theorem dMO_read_65 : decode cMO_read 65 = .ok (.aload_n 0, 1) := by decide +kernel
theorem dMO_read_66 : decode cMO_read 66 = .ok (.getfield 162, 3) := by decide +kernel
theorem dMO_read_69 : decode cMO_read 69 = .ok (.ifCond .eq 17, 3) := by decide +kernel
theorem dMO_read_72 : decode cMO_read 72 = .ok (.aload_n 0, 1) := by decide +kernel
theorem dMO_read_73 : decode cMO_read 73 = .ok (.iconst 0, 1) := by decide +kernel
theorem dMO_read_74 : decode cMO_read 74 = .ok (.sipush 1728, 3) := by decide +kernel
theorem dMO_read_77 : decode cMO_read 77 = .ok (.invokevirtual 87, 3) := by decide +kernel
theorem dMO_read_80 : decode cMO_read 80 = .ok (.iconst (-1), 1) := by decide +kernel
theorem dMO_read_81 : decode cMO_read 81 = .ok (.iload_n 1, 1) := by decide +kernel
theorem dMO_read_82 : decode cMO_read 82 = .ok (.iconst 1, 1) := by decide +kernel
theorem dMO_read_83 : decode cMO_read 83 = .ok (.isub, 1) := by decide +kernel
theorem dMO_read_84 : decode cMO_read 84 = .ok (.isub, 1) := by decide +kernel
theorem dMO_read_85 : decode cMO_read 85 = .ok (.ireturn, 1) := by decide +kernel
theorem dMO_read_86 : decode cMO_read 86 = .ok (.aload_n 0, 1) := by decide +kernel
theorem dMO_read_87 : decode cMO_read 87 = .ok (.getfield 127, 3) := by decide +kernel
theorem dMO_read_90 : decode cMO_read 90 = .ok (.ireturn, 1) := by decide +kernel
abbrev cMO_got : ByteArray := prog_12_method_48_code
abbrev yMO_got : MethodName := ⟨"PacketRowsModel", "got", "(II)I"⟩
abbrev wsMO_got : List Cond := .code yMO_got cMO_got 3 (some .int) :: uU
theorem dMO_got_0 : decode cMO_got 0 = .ok (.aload_n 0, 1) := by decide +kernel
theorem dMO_got_1 : decode cMO_got 1 = .ok (.iload_n 1, 1) := by decide +kernel
theorem dMO_got_2 : decode cMO_got 2 = .ok (.iconst 0, 1) := by decide +kernel
theorem dMO_got_3 : decode cMO_got 3 = .ok (.aload_n 0, 1) := by decide +kernel
theorem dMO_got_4 : decode cMO_got 4 = .ok (.getfield 81, 3) := by decide +kernel
theorem dMO_got_7 : decode cMO_got 7 = .ok (.iconst 1, 1) := by decide +kernel
theorem dMO_got_8 : decode cMO_got 8 = .ok (.isub, 1) := by decide +kernel
theorem dMO_got_9 : decode cMO_got 9 = .ok (.invokestatic 105, 3) := by decide +kernel
theorem dMO_got_12 : decode cMO_got 12 = .ok (.ifCond .eq 16, 3) := by decide +kernel
theorem dMO_got_15 : decode cMO_got 15 = .ok (.iload_n 2, 1) := by decide +kernel
theorem dMO_got_16 : decode cMO_got 16 = .ok (.iconst 0, 1) := by decide +kernel
theorem dMO_got_17 : decode cMO_got 17 = .ok (.iconst 3, 1) := by decide +kernel
theorem dMO_got_18 : decode cMO_got 18 = .ok (.invokestatic 105, 3) := by decide +kernel
theorem dMO_got_21 : decode cMO_got 21 = .ok (.ifCond .eq 7, 3) := by decide +kernel
theorem dMO_got_24 : decode cMO_got 24 = .ok (.iconst 1, 1) := by decide +kernel
theorem dMO_got_25 : decode cMO_got 25 = .ok (.goto 4, 3) := by decide +kernel
theorem dMO_got_28 : decode cMO_got 28 = .ok (.iconst 0, 1) := by decide +kernel
theorem dMO_got_29 : decode cMO_got 29 = .ok (.iconst 1, 1) := by decide +kernel
theorem dMO_got_30 : decode cMO_got 30 = .ok (.invokevirtual 109, 3) := by decide +kernel
theorem dMO_got_33 : decode cMO_got 33 = .ok (.ifCond .ne 5, 3) := by decide +kernel
theorem dMO_got_36 : decode cMO_got 36 = .ok (.iconst 0, 1) := by decide +kernel
theorem dMO_got_37 : decode cMO_got 37 = .ok (.ireturn, 1) := by decide +kernel
theorem dMO_got_38 : decode cMO_got 38 = .ok (.iload_n 2, 1) := by decide +kernel
theorem dMO_got_39 : decode cMO_got 39 = .ok (.ifCond .ne 20, 3) := by decide +kernel
theorem dMO_got_42 : decode cMO_got 42 = .ok (.aload_n 0, 1) := by decide +kernel
theorem dMO_got_43 : decode cMO_got 43 = .ok (.getfield 38, 3) := by decide +kernel
theorem dMO_got_46 : decode cMO_got 46 = .ok (.bipush 8, 2) := by decide +kernel
theorem dMO_got_48 : decode cMO_got 48 = .ok (.aload_n 0, 1) := by decide +kernel
theorem dMO_got_49 : decode cMO_got 49 = .ok (.getfield 116, 3) := by decide +kernel
theorem dMO_got_52 : decode cMO_got 52 = .ok (.imul, 1) := by decide +kernel
theorem dMO_got_53 : decode cMO_got 53 = .ok (.iload_n 1, 1) := by decide +kernel
theorem dMO_got_54 : decode cMO_got 54 = .ok (.iadd, 1) := by decide +kernel
theorem dMO_got_55 : decode cMO_got 55 = .ok (.iaload, 1) := by decide +kernel
theorem dMO_got_56 : decode cMO_got 56 = .ok (.goto 51, 3) := by decide +kernel
theorem dMO_got_59 : decode cMO_got 59 = .ok (.iload_n 2, 1) := by decide +kernel
theorem dMO_got_60 : decode cMO_got 60 = .ok (.iconst 1, 1) := by decide +kernel
theorem dMO_got_61 : decode cMO_got 61 = .ok (.if_icmp .ne 20, 3) := by decide +kernel
theorem dMO_got_64 : decode cMO_got 64 = .ok (.aload_n 0, 1) := by decide +kernel
theorem dMO_got_65 : decode cMO_got 65 = .ok (.getfield 41, 3) := by decide +kernel
theorem dMO_got_68 : decode cMO_got 68 = .ok (.bipush 8, 2) := by decide +kernel
theorem dMO_got_70 : decode cMO_got 70 = .ok (.aload_n 0, 1) := by decide +kernel
theorem dMO_got_71 : decode cMO_got 71 = .ok (.getfield 116, 3) := by decide +kernel
theorem dMO_got_74 : decode cMO_got 74 = .ok (.imul, 1) := by decide +kernel
theorem dMO_got_75 : decode cMO_got 75 = .ok (.iload_n 1, 1) := by decide +kernel
theorem dMO_got_76 : decode cMO_got 76 = .ok (.iadd, 1) := by decide +kernel
theorem dMO_got_77 : decode cMO_got 77 = .ok (.iaload, 1) := by decide +kernel
theorem dMO_got_78 : decode cMO_got 78 = .ok (.goto 29, 3) := by decide +kernel
theorem dMO_got_81 : decode cMO_got 81 = .ok (.iload_n 2, 1) := by decide +kernel
theorem dMO_got_82 : decode cMO_got 82 = .ok (.iconst 2, 1) := by decide +kernel
theorem dMO_got_83 : decode cMO_got 83 = .ok (.if_icmp .ne 15, 3) := by decide +kernel
theorem dMO_got_86 : decode cMO_got 86 = .ok (.aload_n 0, 1) := by decide +kernel
theorem dMO_got_87 : decode cMO_got 87 = .ok (.getfield 32, 3) := by decide +kernel
theorem dMO_got_90 : decode cMO_got 90 = .ok (.aload_n 0, 1) := by decide +kernel
theorem dMO_got_91 : decode cMO_got 91 = .ok (.getfield 116, 3) := by decide +kernel
theorem dMO_got_94 : decode cMO_got 94 = .ok (.iaload, 1) := by decide +kernel
theorem dMO_got_95 : decode cMO_got 95 = .ok (.goto 12, 3) := by decide +kernel
theorem dMO_got_98 : decode cMO_got 98 = .ok (.aload_n 0, 1) := by decide +kernel
theorem dMO_got_99 : decode cMO_got 99 = .ok (.getfield 35, 3) := by decide +kernel
theorem dMO_got_102 : decode cMO_got 102 = .ok (.aload_n 0, 1) := by decide +kernel
theorem dMO_got_103 : decode cMO_got 103 = .ok (.getfield 116, 3) := by decide +kernel
theorem dMO_got_106 : decode cMO_got 106 = .ok (.iaload, 1) := by decide +kernel
theorem dMO_got_107 : decode cMO_got 107 = .ok (.ireturn, 1) := by decide +kernel
abbrev cMO_told : ByteArray := prog_12_method_49_code
abbrev yMO_told : MethodName := ⟨"PacketRowsModel", "told", "(I)I"⟩
abbrev wsMO_told : List Cond := .code yMO_told cMO_told 2 (some .int) :: uU
theorem dMO_told_0 : decode cMO_told 0 = .ok (.aload_n 0, 1) := by decide +kernel
theorem dMO_told_1 : decode cMO_told 1 = .ok (.iload_n 1, 1) := by decide +kernel
theorem dMO_told_2 : decode cMO_told 2 = .ok (.iconst 0, 1) := by decide +kernel
theorem dMO_told_3 : decode cMO_told 3 = .ok (.iconst 5, 1) := by decide +kernel
theorem dMO_told_4 : decode cMO_told 4 = .ok (.invokestatic 105, 3) := by decide +kernel
theorem dMO_told_7 : decode cMO_told 7 = .ok (.iconst 1, 1) := by decide +kernel
theorem dMO_told_8 : decode cMO_told 8 = .ok (.invokevirtual 109, 3) := by decide +kernel
theorem dMO_told_11 : decode cMO_told 11 = .ok (.ifCond .ne 5, 3) := by decide +kernel
theorem dMO_told_14 : decode cMO_told 14 = .ok (.iconst 0, 1) := by decide +kernel
theorem dMO_told_15 : decode cMO_told 15 = .ok (.ireturn, 1) := by decide +kernel
theorem dMO_told_16 : decode cMO_told 16 = .ok (.iload_n 1, 1) := by decide +kernel
theorem dMO_told_17 : decode cMO_told 17 = .ok (.ifCond .ne 10, 3) := by decide +kernel
theorem dMO_told_20 : decode cMO_told 20 = .ok (.aload_n 0, 1) := by decide +kernel
theorem dMO_told_21 : decode cMO_told 21 = .ok (.getfield 159, 3) := by decide +kernel
theorem dMO_told_24 : decode cMO_told 24 = .ok (.goto 57, 3) := by decide +kernel
theorem dMO_told_27 : decode cMO_told 27 = .ok (.iload_n 1, 1) := by decide +kernel
theorem dMO_told_28 : decode cMO_told 28 = .ok (.iconst 1, 1) := by decide +kernel
theorem dMO_told_29 : decode cMO_told 29 = .ok (.if_icmp .ne 12, 3) := by decide +kernel
theorem dMO_told_32 : decode cMO_told 32 = .ok (.aload_n 0, 1) := by decide +kernel
theorem dMO_told_33 : decode cMO_told 33 = .ok (.bipush 12, 2) := by decide +kernel
theorem dMO_told_35 : decode cMO_told 35 = .ok (.invokevirtual 113, 3) := by decide +kernel
theorem dMO_told_38 : decode cMO_told 38 = .ok (.goto 43, 3) := by decide +kernel
theorem dMO_told_41 : decode cMO_told 41 = .ok (.iload_n 1, 1) := by decide +kernel
theorem dMO_told_42 : decode cMO_told 42 = .ok (.iconst 2, 1) := by decide +kernel
theorem dMO_told_43 : decode cMO_told 43 = .ok (.if_icmp .ne 10, 3) := by decide +kernel
theorem dMO_told_46 : decode cMO_told 46 = .ok (.aload_n 0, 1) := by decide +kernel
theorem dMO_told_47 : decode cMO_told 47 = .ok (.getfield 120, 3) := by decide +kernel
theorem dMO_told_50 : decode cMO_told 50 = .ok (.goto 31, 3) := by decide +kernel
theorem dMO_told_53 : decode cMO_told 53 = .ok (.iload_n 1, 1) := by decide +kernel
theorem dMO_told_54 : decode cMO_told 54 = .ok (.iconst 3, 1) := by decide +kernel
theorem dMO_told_55 : decode cMO_told 55 = .ok (.if_icmp .ne 10, 3) := by decide +kernel
theorem dMO_told_58 : decode cMO_told 58 = .ok (.aload_n 0, 1) := by decide +kernel
theorem dMO_told_59 : decode cMO_told 59 = .ok (.getfield 7, 3) := by decide +kernel
theorem dMO_told_62 : decode cMO_told 62 = .ok (.goto 19, 3) := by decide +kernel
theorem dMO_told_65 : decode cMO_told 65 = .ok (.iload_n 1, 1) := by decide +kernel
theorem dMO_told_66 : decode cMO_told 66 = .ok (.iconst 4, 1) := by decide +kernel
theorem dMO_told_67 : decode cMO_told 67 = .ok (.if_icmp .ne 10, 3) := by decide +kernel
theorem dMO_told_70 : decode cMO_told 70 = .ok (.aload_n 0, 1) := by decide +kernel
theorem dMO_told_71 : decode cMO_told 71 = .ok (.getfield 162, 3) := by decide +kernel
theorem dMO_told_74 : decode cMO_told 74 = .ok (.goto 7, 3) := by decide +kernel
theorem dMO_told_77 : decode cMO_told 77 = .ok (.aload_n 0, 1) := by decide +kernel
theorem dMO_told_78 : decode cMO_told 78 = .ok (.getfield 238, 3) := by decide +kernel
theorem dMO_told_81 : decode cMO_told 81 = .ok (.ireturn, 1) := by decide +kernel

abbrev cBT_init : ByteArray := prog_2_method_1_code
abbrev yBT_init : MethodName := ⟨"PacketRows$Bits", "<init>", "()V"⟩
abbrev wsBT_init : List Cond := .code yBT_init cBT_init 1 (none) :: uU
theorem dBT_init_0 : decode cBT_init 0 = .ok (.aload_n 0, 1) := by decide +kernel
theorem dBT_init_1 : decode cBT_init 1 = .ok (.invokespecial 1, 3) := by decide +kernel
theorem dBT_init_4 : decode cBT_init 4 = .ok (.return_, 1) := by decide +kernel
abbrev cBT_fail : ByteArray := prog_2_method_5_code
abbrev yBT_fail : MethodName := ⟨"PacketRows$Bits", "fail", "(I)V"⟩
abbrev wsBT_fail : List Cond := .code yBT_fail cBT_fail 2 (none) :: uU
theorem dBT_fail_0 : decode cBT_fail 0 = .ok (.aload_n 0, 1) := by decide +kernel
theorem dBT_fail_1 : decode cBT_fail 1 = .ok (.getfield 7, 3) := by decide +kernel
theorem dBT_fail_4 : decode cBT_fail 4 = .ok (.ifCond .ne 8, 3) := by decide +kernel
theorem dBT_fail_7 : decode cBT_fail 7 = .ok (.aload_n 0, 1) := by decide +kernel
theorem dBT_fail_8 : decode cBT_fail 8 = .ok (.iload_n 1, 1) := by decide +kernel
theorem dBT_fail_9 : decode cBT_fail 9 = .ok (.putfield 7, 3) := by decide +kernel
theorem dBT_fail_12 : decode cBT_fail 12 = .ok (.return_, 1) := by decide +kernel
abbrev cBT_number : ByteArray := prog_2_method_6_code
abbrev yBT_number : MethodName := ⟨"PacketRows$Bits", "number", "(II)I"⟩
abbrev wsBT_number : List Cond := .code yBT_number cBT_number 5 (some .int) :: uU
theorem dBT_number_0 : decode cBT_number 0 = .ok (.iconst 0, 1) := by decide +kernel
theorem dBT_number_1 : decode cBT_number 1 = .ok (.istore_n 3, 1) := by decide +kernel
theorem dBT_number_2 : decode cBT_number 2 = .ok (.iload_n 2, 1) := by decide +kernel
theorem dBT_number_3 : decode cBT_number 3 = .ok (.iconst 1, 1) := by decide +kernel
theorem dBT_number_4 : decode cBT_number 4 = .ok (.isub, 1) := by decide +kernel
theorem dBT_number_5 : decode cBT_number 5 = .ok (.istore 4, 2) := by decide +kernel
theorem dBT_number_7 : decode cBT_number 7 = .ok (.iload 4, 2) := by decide +kernel
theorem dBT_number_9 : decode cBT_number 9 = .ok (.ifCond .lt 41, 3) := by decide +kernel
theorem dBT_number_12 : decode cBT_number 12 = .ok (.iload_n 3, 1) := by decide +kernel
theorem dBT_number_13 : decode cBT_number 13 = .ok (.iconst 1, 1) := by decide +kernel
theorem dBT_number_14 : decode cBT_number 14 = .ok (.ishl, 1) := by decide +kernel
theorem dBT_number_15 : decode cBT_number 15 = .ok (.aload_n 0, 1) := by decide +kernel
theorem dBT_number_16 : decode cBT_number 16 = .ok (.iload_n 1, 1) := by decide +kernel
theorem dBT_number_17 : decode cBT_number 17 = .ok (.iload 4, 2) := by decide +kernel
theorem dBT_number_19 : decode cBT_number 19 = .ok (.ishr, 1) := by decide +kernel
theorem dBT_number_20 : decode cBT_number 20 = .ok (.iconst 1, 1) := by decide +kernel
theorem dBT_number_21 : decode cBT_number 21 = .ok (.iand, 1) := by decide +kernel
theorem dBT_number_22 : decode cBT_number 22 = .ok (.iconst 1, 1) := by decide +kernel
theorem dBT_number_23 : decode cBT_number 23 = .ok (.if_icmp .ne 7, 3) := by decide +kernel
theorem dBT_number_26 : decode cBT_number 26 = .ok (.iconst 1, 1) := by decide +kernel
theorem dBT_number_27 : decode cBT_number 27 = .ok (.goto 4, 3) := by decide +kernel
theorem dBT_number_30 : decode cBT_number 30 = .ok (.iconst 0, 1) := by decide +kernel
theorem dBT_number_31 : decode cBT_number 31 = .ok (.invokevirtual 13, 3) := by decide +kernel
theorem dBT_number_34 : decode cBT_number 34 = .ok (.ifCond .eq 7, 3) := by decide +kernel
theorem dBT_number_37 : decode cBT_number 37 = .ok (.iconst 1, 1) := by decide +kernel
theorem dBT_number_38 : decode cBT_number 38 = .ok (.goto 4, 3) := by decide +kernel
theorem dBT_number_41 : decode cBT_number 41 = .ok (.iconst 0, 1) := by decide +kernel
theorem dBT_number_42 : decode cBT_number 42 = .ok (.ior, 1) := by decide +kernel
theorem dBT_number_43 : decode cBT_number 43 = .ok (.istore_n 3, 1) := by decide +kernel
theorem dBT_number_44 : decode cBT_number 44 = .ok (.iinc 4 (-1), 3) := by decide +kernel
theorem dBT_number_47 : decode cBT_number 47 = .ok (.goto (-40), 3) := by decide +kernel
theorem dBT_number_50 : decode cBT_number 50 = .ok (.iload_n 3, 1) := by decide +kernel
theorem dBT_number_51 : decode cBT_number 51 = .ok (.ireturn, 1) := by decide +kernel
abbrev cBR_init : ByteArray := prog_3_method_1_code
abbrev yBR_init : MethodName := ⟨"PacketRows$ByteRow", "<init>", "()V"⟩
abbrev wsBR_init : List Cond := .code yBR_init cBR_init 1 (none) :: uU
theorem dBR_init_0 : decode cBR_init 0 = .ok (.aload_n 0, 1) := by decide +kernel
theorem dBR_init_1 : decode cBR_init 1 = .ok (.invokespecial 3, 3) := by decide +kernel
theorem dBR_init_4 : decode cBR_init 4 = .ok (.aload_n 0, 1) := by decide +kernel
theorem dBR_init_5 : decode cBR_init 5 = .ok (.sipush 6000, 3) := by decide +kernel
theorem dBR_init_8 : decode cBR_init 8 = .ok (.newarray .int, 2) := by decide +kernel
theorem dBR_init_10 : decode cBR_init 10 = .ok (.putfield 9, 3) := by decide +kernel
theorem dBR_init_13 : decode cBR_init 13 = .ok (.return_, 1) := by decide +kernel
abbrev cBR_at : ByteArray := prog_3_method_2_code
abbrev yBR_at : MethodName := ⟨"PacketRows$ByteRow", "at", "(I)I"⟩
abbrev wsBR_at : List Cond := .code yBR_at cBR_at 2 (some .int) :: uU
theorem dBR_at_0 : decode cBR_at 0 = .ok (.iload_n 1, 1) := by decide +kernel
theorem dBR_at_1 : decode cBR_at 1 = .ok (.iconst 0, 1) := by decide +kernel
theorem dBR_at_2 : decode cBR_at 2 = .ok (.aload_n 0, 1) := by decide +kernel
theorem dBR_at_3 : decode cBR_at 3 = .ok (.getfield 15, 3) := by decide +kernel
theorem dBR_at_6 : decode cBR_at 6 = .ok (.iconst 1, 1) := by decide +kernel
theorem dBR_at_7 : decode cBR_at 7 = .ok (.isub, 1) := by decide +kernel
theorem dBR_at_8 : decode cBR_at 8 = .ok (.invokestatic 19, 3) := by decide +kernel
theorem dBR_at_11 : decode cBR_at 11 = .ok (.ifCond .eq 12, 3) := by decide +kernel
theorem dBR_at_14 : decode cBR_at 14 = .ok (.aload_n 0, 1) := by decide +kernel
theorem dBR_at_15 : decode cBR_at 15 = .ok (.getfield 9, 3) := by decide +kernel
theorem dBR_at_18 : decode cBR_at 18 = .ok (.iload_n 1, 1) := by decide +kernel
theorem dBR_at_19 : decode cBR_at 19 = .ok (.iaload, 1) := by decide +kernel
theorem dBR_at_20 : decode cBR_at 20 = .ok (.goto 4, 3) := by decide +kernel
theorem dBR_at_23 : decode cBR_at 23 = .ok (.iconst (-1), 1) := by decide +kernel
theorem dBR_at_24 : decode cBR_at 24 = .ok (.ireturn, 1) := by decide +kernel
abbrev cBR_add : ByteArray := prog_3_method_3_code
abbrev yBR_add : MethodName := ⟨"PacketRows$ByteRow", "add", "(I)V"⟩
abbrev wsBR_add : List Cond := .code yBR_add cBR_add 2 (none) :: uU
theorem dBR_add_0 : decode cBR_add 0 = .ok (.aload_n 0, 1) := by decide +kernel
theorem dBR_add_1 : decode cBR_add 1 = .ok (.getfield 15, 3) := by decide +kernel
theorem dBR_add_4 : decode cBR_add 4 = .ok (.sipush 6000, 3) := by decide +kernel
theorem dBR_add_7 : decode cBR_add 7 = .ok (.if_icmp .ge 23, 3) := by decide +kernel
theorem dBR_add_10 : decode cBR_add 10 = .ok (.aload_n 0, 1) := by decide +kernel
theorem dBR_add_11 : decode cBR_add 11 = .ok (.getfield 9, 3) := by decide +kernel
theorem dBR_add_14 : decode cBR_add 14 = .ok (.aload_n 0, 1) := by decide +kernel
theorem dBR_add_15 : decode cBR_add 15 = .ok (.getfield 15, 3) := by decide +kernel
theorem dBR_add_18 : decode cBR_add 18 = .ok (.iload_n 1, 1) := by decide +kernel
theorem dBR_add_19 : decode cBR_add 19 = .ok (.iastore, 1) := by decide +kernel
theorem dBR_add_20 : decode cBR_add 20 = .ok (.aload_n 0, 1) := by decide +kernel
theorem dBR_add_21 : decode cBR_add 21 = .ok (.dup, 1) := by decide +kernel
theorem dBR_add_22 : decode cBR_add 22 = .ok (.getfield 15, 3) := by decide +kernel
theorem dBR_add_25 : decode cBR_add 25 = .ok (.iconst 1, 1) := by decide +kernel
theorem dBR_add_26 : decode cBR_add 26 = .ok (.iadd, 1) := by decide +kernel
theorem dBR_add_27 : decode cBR_add 27 = .ok (.putfield 15, 3) := by decide +kernel
theorem dBR_add_30 : decode cBR_add 30 = .ok (.return_, 1) := by decide +kernel
abbrev cHD_init : ByteArray := prog_4_method_1_code
abbrev yHD_init : MethodName := ⟨"PacketRows$Heads", "<init>", "(LPacketRows$Picture;LPacketRows$Order;)V"⟩
abbrev wsHD_init : List Cond := .code yHD_init cHD_init 3 (none) :: uU
theorem dHD_init_0 : decode cHD_init 0 = .ok (.aload_n 0, 1) := by decide +kernel
theorem dHD_init_1 : decode cHD_init 1 = .ok (.invokespecial 3, 3) := by decide +kernel
theorem dHD_init_4 : decode cHD_init 4 = .ok (.aload_n 0, 1) := by decide +kernel
theorem dHD_init_5 : decode cHD_init 5 = .ok (.aload_n 1, 1) := by decide +kernel
theorem dHD_init_6 : decode cHD_init 6 = .ok (.putfield 9, 3) := by decide +kernel
theorem dHD_init_9 : decode cHD_init 9 = .ok (.aload_n 0, 1) := by decide +kernel
theorem dHD_init_10 : decode cHD_init 10 = .ok (.aload_n 2, 1) := by decide +kernel
theorem dHD_init_11 : decode cHD_init 11 = .ok (.putfield 15, 3) := by decide +kernel
theorem dHD_init_14 : decode cHD_init 14 = .ok (.aload_n 0, 1) := by decide +kernel
theorem dHD_init_15 : decode cHD_init 15 = .ok (.iconst 2, 1) := by decide +kernel
theorem dHD_init_16 : decode cHD_init 16 = .ok (.aload_n 1, 1) := by decide +kernel
theorem dHD_init_17 : decode cHD_init 17 = .ok (.invokevirtual 19, 3) := by decide +kernel
theorem dHD_init_20 : decode cHD_init 20 = .ok (.imul, 1) := by decide +kernel
theorem dHD_init_21 : decode cHD_init 21 = .ok (.newarray .int, 2) := by decide +kernel
theorem dHD_init_23 : decode cHD_init 23 = .ok (.putfield 25, 3) := by decide +kernel
theorem dHD_init_26 : decode cHD_init 26 = .ok (.aload_n 0, 1) := by decide +kernel
theorem dHD_init_27 : decode cHD_init 27 = .ok (.new 29, 3) := by decide +kernel
theorem dHD_init_30 : decode cHD_init 30 = .ok (.dup, 1) := by decide +kernel
theorem dHD_init_31 : decode cHD_init 31 = .ok (.aload_n 0, 1) := by decide +kernel
theorem dHD_init_32 : decode cHD_init 32 = .ok (.getfield 25, 3) := by decide +kernel
theorem dHD_init_35 : decode cHD_init 35 = .ok (.invokespecial 31, 3) := by decide +kernel
theorem dHD_init_38 : decode cHD_init 38 = .ok (.putfield 34, 3) := by decide +kernel
theorem dHD_init_41 : decode cHD_init 41 = .ok (.aload_n 0, 1) := by decide +kernel
theorem dHD_init_42 : decode cHD_init 42 = .ok (.new 29, 3) := by decide +kernel
theorem dHD_init_45 : decode cHD_init 45 = .ok (.dup, 1) := by decide +kernel
theorem dHD_init_46 : decode cHD_init 46 = .ok (.aload_n 0, 1) := by decide +kernel
theorem dHD_init_47 : decode cHD_init 47 = .ok (.getfield 25, 3) := by decide +kernel
theorem dHD_init_50 : decode cHD_init 50 = .ok (.invokespecial 31, 3) := by decide +kernel
theorem dHD_init_53 : decode cHD_init 53 = .ok (.putfield 38, 3) := by decide +kernel
theorem dHD_init_56 : decode cHD_init 56 = .ok (.aload_n 0, 1) := by decide +kernel
theorem dHD_init_57 : decode cHD_init 57 = .ok (.aload_n 1, 1) := by decide +kernel
theorem dHD_init_58 : decode cHD_init 58 = .ok (.invokevirtual 19, 3) := by decide +kernel
theorem dHD_init_61 : decode cHD_init 61 = .ok (.newarray .int, 2) := by decide +kernel
theorem dHD_init_63 : decode cHD_init 63 = .ok (.putfield 41, 3) := by decide +kernel
theorem dHD_init_66 : decode cHD_init 66 = .ok (.aload_n 0, 1) := by decide +kernel
theorem dHD_init_67 : decode cHD_init 67 = .ok (.aload_n 1, 1) := by decide +kernel
theorem dHD_init_68 : decode cHD_init 68 = .ok (.invokevirtual 19, 3) := by decide +kernel
theorem dHD_init_71 : decode cHD_init 71 = .ok (.newarray .boolean, 2) := by decide +kernel
theorem dHD_init_73 : decode cHD_init 73 = .ok (.putfield 44, 3) := by decide +kernel
theorem dHD_init_76 : decode cHD_init 76 = .ok (.return_, 1) := by decide +kernel
abbrev cHD_goOver : ByteArray := prog_4_method_2_code
abbrev yHD_goOver : MethodName := ⟨"PacketRows$Heads", "goOver", "(LPacketRows$Bits;LPacketRows$Rows;)I"⟩
abbrev wsHD_goOver : List Cond := .code yHD_goOver cHD_goOver 4 (some .int) :: uU
theorem dHD_goOver_0 : decode cHD_goOver 0 = .ok (.aload_n 0, 1) := by decide +kernel
theorem dHD_goOver_1 : decode cHD_goOver 1 = .ok (.invokevirtual 48, 3) := by decide +kernel
theorem dHD_goOver_4 : decode cHD_goOver 4 = .ok (.iconst 0, 1) := by decide +kernel
theorem dHD_goOver_5 : decode cHD_goOver 5 = .ok (.istore_n 3, 1) := by decide +kernel
theorem dHD_goOver_6 : decode cHD_goOver 6 = .ok (.iload_n 3, 1) := by decide +kernel
theorem dHD_goOver_7 : decode cHD_goOver 7 = .ok (.aload_n 0, 1) := by decide +kernel
theorem dHD_goOver_8 : decode cHD_goOver 8 = .ok (.getfield 9, 3) := by decide +kernel
theorem dHD_goOver_11 : decode cHD_goOver 11 = .ok (.invokevirtual 51, 3) := by decide +kernel
theorem dHD_goOver_14 : decode cHD_goOver 14 = .ok (.if_icmp .ge 15, 3) := by decide +kernel
theorem dHD_goOver_17 : decode cHD_goOver 17 = .ok (.aload_n 0, 1) := by decide +kernel
theorem dHD_goOver_18 : decode cHD_goOver 18 = .ok (.aload_n 2, 1) := by decide +kernel
theorem dHD_goOver_19 : decode cHD_goOver 19 = .ok (.iload_n 3, 1) := by decide +kernel
theorem dHD_goOver_20 : decode cHD_goOver 20 = .ok (.invokevirtual 54, 3) := by decide +kernel
theorem dHD_goOver_23 : decode cHD_goOver 23 = .ok (.iinc 3 1, 3) := by decide +kernel
theorem dHD_goOver_26 : decode cHD_goOver 26 = .ok (.goto (-20), 3) := by decide +kernel
theorem dHD_goOver_29 : decode cHD_goOver 29 = .ok (.aload_n 0, 1) := by decide +kernel
theorem dHD_goOver_30 : decode cHD_goOver 30 = .ok (.getfield 34, 3) := by decide +kernel
theorem dHD_goOver_33 : decode cHD_goOver 33 = .ok (.iconst 2, 1) := by decide +kernel
theorem dHD_goOver_34 : decode cHD_goOver 34 = .ok (.aload_n 0, 1) := by decide +kernel
theorem dHD_goOver_35 : decode cHD_goOver 35 = .ok (.getfield 9, 3) := by decide +kernel
theorem dHD_goOver_38 : decode cHD_goOver 38 = .ok (.invokevirtual 58, 3) := by decide +kernel
theorem dHD_goOver_41 : decode cHD_goOver 41 = .ok (.imul, 1) := by decide +kernel
theorem dHD_goOver_42 : decode cHD_goOver 42 = .ok (.invokevirtual 61, 3) := by decide +kernel
theorem dHD_goOver_45 : decode cHD_goOver 45 = .ok (.aload_n 0, 1) := by decide +kernel
theorem dHD_goOver_46 : decode cHD_goOver 46 = .ok (.getfield 38, 3) := by decide +kernel
theorem dHD_goOver_49 : decode cHD_goOver 49 = .ok (.iconst 2, 1) := by decide +kernel
theorem dHD_goOver_50 : decode cHD_goOver 50 = .ok (.aload_n 0, 1) := by decide +kernel
theorem dHD_goOver_51 : decode cHD_goOver 51 = .ok (.getfield 9, 3) := by decide +kernel
theorem dHD_goOver_54 : decode cHD_goOver 54 = .ok (.invokevirtual 58, 3) := by decide +kernel
theorem dHD_goOver_57 : decode cHD_goOver 57 = .ok (.imul, 1) := by decide +kernel
theorem dHD_goOver_58 : decode cHD_goOver 58 = .ok (.invokevirtual 61, 3) := by decide +kernel
theorem dHD_goOver_61 : decode cHD_goOver 61 = .ok (.iconst 0, 1) := by decide +kernel
theorem dHD_goOver_62 : decode cHD_goOver 62 = .ok (.istore_n 3, 1) := by decide +kernel
theorem dHD_goOver_63 : decode cHD_goOver 63 = .ok (.iload_n 3, 1) := by decide +kernel
theorem dHD_goOver_64 : decode cHD_goOver 64 = .ok (.aload_n 0, 1) := by decide +kernel
theorem dHD_goOver_65 : decode cHD_goOver 65 = .ok (.getfield 15, 3) := by decide +kernel
theorem dHD_goOver_68 : decode cHD_goOver 68 = .ok (.getfield 65, 3) := by decide +kernel
theorem dHD_goOver_71 : decode cHD_goOver 71 = .ok (.if_icmp .ge 34, 3) := by decide +kernel
theorem dHD_goOver_74 : decode cHD_goOver 74 = .ok (.aload_n 1, 1) := by decide +kernel
theorem dHD_goOver_75 : decode cHD_goOver 75 = .ok (.iload_n 3, 1) := by decide +kernel
theorem dHD_goOver_76 : decode cHD_goOver 76 = .ok (.invokevirtual 71, 3) := by decide +kernel
theorem dHD_goOver_79 : decode cHD_goOver 79 = .ok (.aload_n 0, 1) := by decide +kernel
theorem dHD_goOver_80 : decode cHD_goOver 80 = .ok (.aload_n 1, 1) := by decide +kernel
theorem dHD_goOver_81 : decode cHD_goOver 81 = .ok (.aload_n 2, 1) := by decide +kernel
theorem dHD_goOver_82 : decode cHD_goOver 82 = .ok (.iload_n 3, 1) := by decide +kernel
theorem dHD_goOver_83 : decode cHD_goOver 83 = .ok (.invokevirtual 76, 3) := by decide +kernel
theorem dHD_goOver_86 : decode cHD_goOver 86 = .ok (.aload_n 1, 1) := by decide +kernel
theorem dHD_goOver_87 : decode cHD_goOver 87 = .ok (.invokevirtual 80, 3) := by decide +kernel
theorem dHD_goOver_90 : decode cHD_goOver 90 = .ok (.aload_n 1, 1) := by decide +kernel
theorem dHD_goOver_91 : decode cHD_goOver 91 = .ok (.getfield 83, 3) := by decide +kernel
theorem dHD_goOver_94 : decode cHD_goOver 94 = .ok (.ifCond .eq 5, 3) := by decide +kernel
theorem dHD_goOver_97 : decode cHD_goOver 97 = .ok (.iload_n 3, 1) := by decide +kernel
theorem dHD_goOver_98 : decode cHD_goOver 98 = .ok (.ireturn, 1) := by decide +kernel
theorem dHD_goOver_99 : decode cHD_goOver 99 = .ok (.iinc 3 1, 3) := by decide +kernel
theorem dHD_goOver_102 : decode cHD_goOver 102 = .ok (.goto (-39), 3) := by decide +kernel
theorem dHD_goOver_105 : decode cHD_goOver 105 = .ok (.aload_n 0, 1) := by decide +kernel
theorem dHD_goOver_106 : decode cHD_goOver 106 = .ok (.getfield 15, 3) := by decide +kernel
theorem dHD_goOver_109 : decode cHD_goOver 109 = .ok (.getfield 65, 3) := by decide +kernel
theorem dHD_goOver_112 : decode cHD_goOver 112 = .ok (.ireturn, 1) := by decide +kernel
abbrev cHD_forget : ByteArray := prog_4_method_3_code
abbrev yHD_forget : MethodName := ⟨"PacketRows$Heads", "forget", "()V"⟩
abbrev wsHD_forget : List Cond := .code yHD_forget cHD_forget 3 (none) :: uU
theorem dHD_forget_0 : decode cHD_forget 0 = .ok (.aload_n 0, 1) := by decide +kernel
theorem dHD_forget_1 : decode cHD_forget 1 = .ok (.getfield 9, 3) := by decide +kernel
theorem dHD_forget_4 : decode cHD_forget 4 = .ok (.invokevirtual 58, 3) := by decide +kernel
theorem dHD_forget_7 : decode cHD_forget 7 = .ok (.istore_n 1, 1) := by decide +kernel
theorem dHD_forget_8 : decode cHD_forget 8 = .ok (.aload_n 0, 1) := by decide +kernel
theorem dHD_forget_9 : decode cHD_forget 9 = .ok (.getfield 25, 3) := by decide +kernel
theorem dHD_forget_12 : decode cHD_forget 12 = .ok (.iconst (-1), 1) := by decide +kernel
theorem dHD_forget_13 : decode cHD_forget 13 = .ok (.invokestatic 86, 3) := by decide +kernel
theorem dHD_forget_16 : decode cHD_forget 16 = .ok (.aload_n 0, 1) := by decide +kernel
theorem dHD_forget_17 : decode cHD_forget 17 = .ok (.getfield 34, 3) := by decide +kernel
theorem dHD_forget_20 : decode cHD_forget 20 = .ok (.iconst 2, 1) := by decide +kernel
theorem dHD_forget_21 : decode cHD_forget 21 = .ok (.iload_n 1, 1) := by decide +kernel
theorem dHD_forget_22 : decode cHD_forget 22 = .ok (.imul, 1) := by decide +kernel
theorem dHD_forget_23 : decode cHD_forget 23 = .ok (.invokevirtual 92, 3) := by decide +kernel
theorem dHD_forget_26 : decode cHD_forget 26 = .ok (.aload_n 0, 1) := by decide +kernel
theorem dHD_forget_27 : decode cHD_forget 27 = .ok (.getfield 38, 3) := by decide +kernel
theorem dHD_forget_30 : decode cHD_forget 30 = .ok (.iconst 2, 1) := by decide +kernel
theorem dHD_forget_31 : decode cHD_forget 31 = .ok (.iload_n 1, 1) := by decide +kernel
theorem dHD_forget_32 : decode cHD_forget 32 = .ok (.imul, 1) := by decide +kernel
theorem dHD_forget_33 : decode cHD_forget 33 = .ok (.invokevirtual 92, 3) := by decide +kernel
theorem dHD_forget_36 : decode cHD_forget 36 = .ok (.iconst 0, 1) := by decide +kernel
theorem dHD_forget_37 : decode cHD_forget 37 = .ok (.istore_n 2, 1) := by decide +kernel
theorem dHD_forget_38 : decode cHD_forget 38 = .ok (.iload_n 2, 1) := by decide +kernel
theorem dHD_forget_39 : decode cHD_forget 39 = .ok (.iload_n 1, 1) := by decide +kernel
theorem dHD_forget_40 : decode cHD_forget 40 = .ok (.if_icmp .ge 23, 3) := by decide +kernel
theorem dHD_forget_43 : decode cHD_forget 43 = .ok (.aload_n 0, 1) := by decide +kernel
theorem dHD_forget_44 : decode cHD_forget 44 = .ok (.getfield 41, 3) := by decide +kernel
theorem dHD_forget_47 : decode cHD_forget 47 = .ok (.iload_n 2, 1) := by decide +kernel
theorem dHD_forget_48 : decode cHD_forget 48 = .ok (.iconst 3, 1) := by decide +kernel
theorem dHD_forget_49 : decode cHD_forget 49 = .ok (.iastore, 1) := by decide +kernel
theorem dHD_forget_50 : decode cHD_forget 50 = .ok (.aload_n 0, 1) := by decide +kernel
theorem dHD_forget_51 : decode cHD_forget 51 = .ok (.getfield 44, 3) := by decide +kernel
theorem dHD_forget_54 : decode cHD_forget 54 = .ok (.iload_n 2, 1) := by decide +kernel
theorem dHD_forget_55 : decode cHD_forget 55 = .ok (.iconst 0, 1) := by decide +kernel
theorem dHD_forget_56 : decode cHD_forget 56 = .ok (.bastore, 1) := by decide +kernel
theorem dHD_forget_57 : decode cHD_forget 57 = .ok (.iinc 2 1, 3) := by decide +kernel
theorem dHD_forget_60 : decode cHD_forget 60 = .ok (.goto (-22), 3) := by decide +kernel
theorem dHD_forget_63 : decode cHD_forget 63 = .ok (.return_, 1) := by decide +kernel
abbrev cHD_plantSlot : ByteArray := prog_4_method_4_code
abbrev yHD_plantSlot : MethodName := ⟨"PacketRows$Heads", "plantSlot", "(LPacketRows$Rows;I)V"⟩
abbrev wsHD_plantSlot : List Cond := .code yHD_plantSlot cHD_plantSlot 8 (none) :: uU
theorem dHD_plantSlot_0 : decode cHD_plantSlot 0 = .ok (.aload_n 0, 1) := by decide +kernel
theorem dHD_plantSlot_1 : decode cHD_plantSlot 1 = .ok (.getfield 9, 3) := by decide +kernel
theorem dHD_plantSlot_4 : decode cHD_plantSlot 4 = .ok (.iload_n 2, 1) := by decide +kernel
theorem dHD_plantSlot_5 : decode cHD_plantSlot 5 = .ok (.invokevirtual 95, 3) := by decide +kernel
theorem dHD_plantSlot_8 : decode cHD_plantSlot 8 = .ok (.istore_n 3, 1) := by decide +kernel
theorem dHD_plantSlot_9 : decode cHD_plantSlot 9 = .ok (.aload_n 0, 1) := by decide +kernel
theorem dHD_plantSlot_10 : decode cHD_plantSlot 10 = .ok (.getfield 9, 3) := by decide +kernel
theorem dHD_plantSlot_13 : decode cHD_plantSlot 13 = .ok (.getfield 99, 3) := by decide +kernel
theorem dHD_plantSlot_16 : decode cHD_plantSlot 16 = .ok (.iload_n 2, 1) := by decide +kernel
theorem dHD_plantSlot_17 : decode cHD_plantSlot 17 = .ok (.iaload, 1) := by decide +kernel
theorem dHD_plantSlot_18 : decode cHD_plantSlot 18 = .ok (.aload_n 0, 1) := by decide +kernel
theorem dHD_plantSlot_19 : decode cHD_plantSlot 19 = .ok (.getfield 9, 3) := by decide +kernel
theorem dHD_plantSlot_22 : decode cHD_plantSlot 22 = .ok (.getfield 102, 3) := by decide +kernel
theorem dHD_plantSlot_25 : decode cHD_plantSlot 25 = .ok (.iload_n 2, 1) := by decide +kernel
theorem dHD_plantSlot_26 : decode cHD_plantSlot 26 = .ok (.iaload, 1) := by decide +kernel
theorem dHD_plantSlot_27 : decode cHD_plantSlot 27 = .ok (.imul, 1) := by decide +kernel
theorem dHD_plantSlot_28 : decode cHD_plantSlot 28 = .ok (.istore 4, 2) := by decide +kernel
theorem dHD_plantSlot_30 : decode cHD_plantSlot 30 = .ok (.iconst 0, 1) := by decide +kernel
theorem dHD_plantSlot_31 : decode cHD_plantSlot 31 = .ok (.istore 5, 2) := by decide +kernel
theorem dHD_plantSlot_33 : decode cHD_plantSlot 33 = .ok (.iload 5, 2) := by decide +kernel
theorem dHD_plantSlot_35 : decode cHD_plantSlot 35 = .ok (.iload 4, 2) := by decide +kernel
theorem dHD_plantSlot_37 : decode cHD_plantSlot 37 = .ok (.if_icmp .ge 110, 3) := by decide +kernel
theorem dHD_plantSlot_40 : decode cHD_plantSlot 40 = .ok (.aload_n 0, 1) := by decide +kernel
theorem dHD_plantSlot_41 : decode cHD_plantSlot 41 = .ok (.getfield 9, 3) := by decide +kernel
theorem dHD_plantSlot_44 : decode cHD_plantSlot 44 = .ok (.getfield 105, 3) := by decide +kernel
theorem dHD_plantSlot_47 : decode cHD_plantSlot 47 = .ok (.iload_n 2, 1) := by decide +kernel
theorem dHD_plantSlot_48 : decode cHD_plantSlot 48 = .ok (.iaload, 1) := by decide +kernel
theorem dHD_plantSlot_49 : decode cHD_plantSlot 49 = .ok (.iload 5, 2) := by decide +kernel
theorem dHD_plantSlot_51 : decode cHD_plantSlot 51 = .ok (.iload_n 3, 1) := by decide +kernel
theorem dHD_plantSlot_52 : decode cHD_plantSlot 52 = .ok (.imul, 1) := by decide +kernel
theorem dHD_plantSlot_53 : decode cHD_plantSlot 53 = .ok (.iadd, 1) := by decide +kernel
theorem dHD_plantSlot_54 : decode cHD_plantSlot 54 = .ok (.istore 6, 2) := by decide +kernel
theorem dHD_plantSlot_56 : decode cHD_plantSlot 56 = .ok (.aload_n 0, 1) := by decide +kernel
theorem dHD_plantSlot_57 : decode cHD_plantSlot 57 = .ok (.getfield 25, 3) := by decide +kernel
theorem dHD_plantSlot_60 : decode cHD_plantSlot 60 = .ok (.iconst 2, 1) := by decide +kernel
theorem dHD_plantSlot_61 : decode cHD_plantSlot 61 = .ok (.iload 6, 2) := by decide +kernel
theorem dHD_plantSlot_63 : decode cHD_plantSlot 63 = .ok (.imul, 1) := by decide +kernel
theorem dHD_plantSlot_64 : decode cHD_plantSlot 64 = .ok (.aload_n 0, 1) := by decide +kernel
theorem dHD_plantSlot_65 : decode cHD_plantSlot 65 = .ok (.getfield 9, 3) := by decide +kernel
theorem dHD_plantSlot_68 : decode cHD_plantSlot 68 = .ok (.getfield 108, 3) := by decide +kernel
theorem dHD_plantSlot_71 : decode cHD_plantSlot 71 = .ok (.iload_n 2, 1) := by decide +kernel
theorem dHD_plantSlot_72 : decode cHD_plantSlot 72 = .ok (.iaload, 1) := by decide +kernel
theorem dHD_plantSlot_73 : decode cHD_plantSlot 73 = .ok (.aload_n 0, 1) := by decide +kernel
theorem dHD_plantSlot_74 : decode cHD_plantSlot 74 = .ok (.getfield 9, 3) := by decide +kernel
theorem dHD_plantSlot_77 : decode cHD_plantSlot 77 = .ok (.getfield 111, 3) := by decide +kernel
theorem dHD_plantSlot_80 : decode cHD_plantSlot 80 = .ok (.iload_n 2, 1) := by decide +kernel
theorem dHD_plantSlot_81 : decode cHD_plantSlot 81 = .ok (.iaload, 1) := by decide +kernel
theorem dHD_plantSlot_82 : decode cHD_plantSlot 82 = .ok (.invokestatic 114, 3) := by decide +kernel
theorem dHD_plantSlot_85 : decode cHD_plantSlot 85 = .ok (.iload 6, 2) := by decide +kernel
theorem dHD_plantSlot_87 : decode cHD_plantSlot 87 = .ok (.istore 7, 2) := by decide +kernel
theorem dHD_plantSlot_89 : decode cHD_plantSlot 89 = .ok (.iload 7, 2) := by decide +kernel
theorem dHD_plantSlot_91 : decode cHD_plantSlot 91 = .ok (.iload 6, 2) := by decide +kernel
theorem dHD_plantSlot_93 : decode cHD_plantSlot 93 = .ok (.iload_n 3, 1) := by decide +kernel
theorem dHD_plantSlot_94 : decode cHD_plantSlot 94 = .ok (.iadd, 1) := by decide +kernel
theorem dHD_plantSlot_95 : decode cHD_plantSlot 95 = .ok (.if_icmp .ge 46, 3) := by decide +kernel
theorem dHD_plantSlot_98 : decode cHD_plantSlot 98 = .ok (.aload_n 0, 1) := by decide +kernel
theorem dHD_plantSlot_99 : decode cHD_plantSlot 99 = .ok (.getfield 34, 3) := by decide +kernel
theorem dHD_plantSlot_102 : decode cHD_plantSlot 102 = .ok (.iload 6, 2) := by decide +kernel
theorem dHD_plantSlot_104 : decode cHD_plantSlot 104 = .ok (.iload 7, 2) := by decide +kernel
theorem dHD_plantSlot_106 : decode cHD_plantSlot 106 = .ok (.iadd, 1) := by decide +kernel
theorem dHD_plantSlot_107 : decode cHD_plantSlot 107 = .ok (.aload_n 1, 1) := by decide +kernel
theorem dHD_plantSlot_108 : decode cHD_plantSlot 108 = .ok (.iload 7, 2) := by decide +kernel
theorem dHD_plantSlot_110 : decode cHD_plantSlot 110 = .ok (.invokevirtual 118, 3) := by decide +kernel
theorem dHD_plantSlot_113 : decode cHD_plantSlot 113 = .ok (.invokevirtual 123, 3) := by decide +kernel
theorem dHD_plantSlot_116 : decode cHD_plantSlot 116 = .ok (.aload_n 0, 1) := by decide +kernel
theorem dHD_plantSlot_117 : decode cHD_plantSlot 117 = .ok (.getfield 38, 3) := by decide +kernel
theorem dHD_plantSlot_120 : decode cHD_plantSlot 120 = .ok (.iload 6, 2) := by decide +kernel
theorem dHD_plantSlot_122 : decode cHD_plantSlot 122 = .ok (.iload 7, 2) := by decide +kernel
theorem dHD_plantSlot_124 : decode cHD_plantSlot 124 = .ok (.iadd, 1) := by decide +kernel
theorem dHD_plantSlot_125 : decode cHD_plantSlot 125 = .ok (.aload_n 1, 1) := by decide +kernel
theorem dHD_plantSlot_126 : decode cHD_plantSlot 126 = .ok (.getfield 127, 3) := by decide +kernel
theorem dHD_plantSlot_129 : decode cHD_plantSlot 129 = .ok (.iload 7, 2) := by decide +kernel
theorem dHD_plantSlot_131 : decode cHD_plantSlot 131 = .ok (.iaload, 1) := by decide +kernel
theorem dHD_plantSlot_132 : decode cHD_plantSlot 132 = .ok (.invokevirtual 123, 3) := by decide +kernel
theorem dHD_plantSlot_135 : decode cHD_plantSlot 135 = .ok (.iinc 7 1, 3) := by decide +kernel
theorem dHD_plantSlot_138 : decode cHD_plantSlot 138 = .ok (.goto (-49), 3) := by decide +kernel
theorem dHD_plantSlot_141 : decode cHD_plantSlot 141 = .ok (.iinc 5 1, 3) := by decide +kernel
theorem dHD_plantSlot_144 : decode cHD_plantSlot 144 = .ok (.goto (-111), 3) := by decide +kernel
theorem dHD_plantSlot_147 : decode cHD_plantSlot 147 = .ok (.return_, 1) := by decide +kernel
abbrev cHD_head : ByteArray := prog_4_method_5_code
abbrev yHD_head : MethodName := ⟨"PacketRows$Heads", "head", "(LPacketRows$Bits;LPacketRows$Rows;I)V"⟩
abbrev wsHD_head : List Cond := .code yHD_head cHD_head 12 (none) :: uU
theorem dHD_head_0 : decode cHD_head 0 = .ok (.aload_n 0, 1) := by decide +kernel
theorem dHD_head_1 : decode cHD_head 1 = .ok (.getfield 15, 3) := by decide +kernel
theorem dHD_head_4 : decode cHD_head 4 = .ok (.iload_n 3, 1) := by decide +kernel
theorem dHD_head_5 : decode cHD_head 5 = .ok (.iconst 0, 1) := by decide +kernel
theorem dHD_head_6 : decode cHD_head 6 = .ok (.invokevirtual 129, 3) := by decide +kernel
theorem dHD_head_9 : decode cHD_head 9 = .ok (.istore 4, 2) := by decide +kernel
theorem dHD_head_11 : decode cHD_head 11 = .ok (.aload_n 0, 1) := by decide +kernel
theorem dHD_head_12 : decode cHD_head 12 = .ok (.getfield 15, 3) := by decide +kernel
theorem dHD_head_15 : decode cHD_head 15 = .ok (.iload_n 3, 1) := by decide +kernel
theorem dHD_head_16 : decode cHD_head 16 = .ok (.iconst 2, 1) := by decide +kernel
theorem dHD_head_17 : decode cHD_head 17 = .ok (.invokevirtual 129, 3) := by decide +kernel
theorem dHD_head_20 : decode cHD_head 20 = .ok (.aload_n 0, 1) := by decide +kernel
theorem dHD_head_21 : decode cHD_head 21 = .ok (.getfield 9, 3) := by decide +kernel
theorem dHD_head_24 : decode cHD_head 24 = .ok (.getfield 133, 3) := by decide +kernel
theorem dHD_head_27 : decode cHD_head 27 = .ok (.imul, 1) := by decide +kernel
theorem dHD_head_28 : decode cHD_head 28 = .ok (.aload_n 0, 1) := by decide +kernel
theorem dHD_head_29 : decode cHD_head 29 = .ok (.getfield 15, 3) := by decide +kernel
theorem dHD_head_32 : decode cHD_head 32 = .ok (.iload_n 3, 1) := by decide +kernel
theorem dHD_head_33 : decode cHD_head 33 = .ok (.iconst 1, 1) := by decide +kernel
theorem dHD_head_34 : decode cHD_head 34 = .ok (.invokevirtual 129, 3) := by decide +kernel
theorem dHD_head_37 : decode cHD_head 37 = .ok (.iadd, 1) := by decide +kernel
theorem dHD_head_38 : decode cHD_head 38 = .ok (.istore 5, 2) := by decide +kernel
theorem dHD_head_40 : decode cHD_head 40 = .ok (.aload_n 0, 1) := by decide +kernel
theorem dHD_head_41 : decode cHD_head 41 = .ok (.getfield 9, 3) := by decide +kernel
theorem dHD_head_44 : decode cHD_head 44 = .ok (.iload 5, 2) := by decide +kernel
theorem dHD_head_46 : decode cHD_head 46 = .ok (.invokevirtual 95, 3) := by decide +kernel
theorem dHD_head_49 : decode cHD_head 49 = .ok (.istore 6, 2) := by decide +kernel
theorem dHD_head_51 : decode cHD_head 51 = .ok (.aload_n 0, 1) := by decide +kernel
theorem dHD_head_52 : decode cHD_head 52 = .ok (.getfield 9, 3) := by decide +kernel
theorem dHD_head_55 : decode cHD_head 55 = .ok (.getfield 102, 3) := by decide +kernel
theorem dHD_head_58 : decode cHD_head 58 = .ok (.iload 5, 2) := by decide +kernel
theorem dHD_head_60 : decode cHD_head 60 = .ok (.iaload, 1) := by decide +kernel
theorem dHD_head_61 : decode cHD_head 61 = .ok (.istore 7, 2) := by decide +kernel
theorem dHD_head_63 : decode cHD_head 63 = .ok (.aload_n 0, 1) := by decide +kernel
theorem dHD_head_64 : decode cHD_head 64 = .ok (.getfield 9, 3) := by decide +kernel
theorem dHD_head_67 : decode cHD_head 67 = .ok (.getfield 105, 3) := by decide +kernel
theorem dHD_head_70 : decode cHD_head 70 = .ok (.iload 5, 2) := by decide +kernel
theorem dHD_head_72 : decode cHD_head 72 = .ok (.iaload, 1) := by decide +kernel
theorem dHD_head_73 : decode cHD_head 73 = .ok (.aload_n 0, 1) := by decide +kernel
theorem dHD_head_74 : decode cHD_head 74 = .ok (.getfield 15, 3) := by decide +kernel
theorem dHD_head_77 : decode cHD_head 77 = .ok (.iload_n 3, 1) := by decide +kernel
theorem dHD_head_78 : decode cHD_head 78 = .ok (.iconst 3, 1) := by decide +kernel
theorem dHD_head_79 : decode cHD_head 79 = .ok (.invokevirtual 129, 3) := by decide +kernel
theorem dHD_head_82 : decode cHD_head 82 = .ok (.iload 7, 2) := by decide +kernel
theorem dHD_head_84 : decode cHD_head 84 = .ok (.imul, 1) := by decide +kernel
theorem dHD_head_85 : decode cHD_head 85 = .ok (.iload 6, 2) := by decide +kernel
theorem dHD_head_87 : decode cHD_head 87 = .ok (.imul, 1) := by decide +kernel
theorem dHD_head_88 : decode cHD_head 88 = .ok (.iadd, 1) := by decide +kernel
theorem dHD_head_89 : decode cHD_head 89 = .ok (.istore 8, 2) := by decide +kernel
theorem dHD_head_91 : decode cHD_head 91 = .ok (.aload_n 1, 1) := by decide +kernel
theorem dHD_head_92 : decode cHD_head 92 = .ok (.aload_n 2, 1) := by decide +kernel
theorem dHD_head_93 : decode cHD_head 93 = .ok (.iload 4, 2) := by decide +kernel
theorem dHD_head_95 : decode cHD_head 95 = .ok (.iload 8, 2) := by decide +kernel
theorem dHD_head_97 : decode cHD_head 97 = .ok (.iload 8, 2) := by decide +kernel
theorem dHD_head_99 : decode cHD_head 99 = .ok (.iload 7, 2) := by decide +kernel
theorem dHD_head_101 : decode cHD_head 101 = .ok (.iload 6, 2) := by decide +kernel
theorem dHD_head_103 : decode cHD_head 103 = .ok (.imul, 1) := by decide +kernel
theorem dHD_head_104 : decode cHD_head 104 = .ok (.iadd, 1) := by decide +kernel
theorem dHD_head_105 : decode cHD_head 105 = .ok (.invokevirtual 136, 3) := by decide +kernel
theorem dHD_head_108 : decode cHD_head 108 = .ok (.invokevirtual 140, 3) := by decide +kernel
theorem dHD_head_111 : decode cHD_head 111 = .ok (.ifCond .ne 4, 3) := by decide +kernel
theorem dHD_head_114 : decode cHD_head 114 = .ok (.return_, 1) := by decide +kernel
theorem dHD_head_115 : decode cHD_head 115 = .ok (.iconst 0, 1) := by decide +kernel
theorem dHD_head_116 : decode cHD_head 116 = .ok (.istore 9, 2) := by decide +kernel
theorem dHD_head_118 : decode cHD_head 118 = .ok (.iload 9, 2) := by decide +kernel
theorem dHD_head_120 : decode cHD_head 120 = .ok (.iload 7, 2) := by decide +kernel
theorem dHD_head_122 : decode cHD_head 122 = .ok (.if_icmp .ge 54, 3) := by decide +kernel
theorem dHD_head_125 : decode cHD_head 125 = .ok (.iload 8, 2) := by decide +kernel
theorem dHD_head_127 : decode cHD_head 127 = .ok (.iload 9, 2) := by decide +kernel
theorem dHD_head_129 : decode cHD_head 129 = .ok (.iload 6, 2) := by decide +kernel
theorem dHD_head_131 : decode cHD_head 131 = .ok (.imul, 1) := by decide +kernel
theorem dHD_head_132 : decode cHD_head 132 = .ok (.iadd, 1) := by decide +kernel
theorem dHD_head_133 : decode cHD_head 133 = .ok (.istore 10, 2) := by decide +kernel
theorem dHD_head_135 : decode cHD_head 135 = .ok (.iload 10, 2) := by decide +kernel
theorem dHD_head_137 : decode cHD_head 137 = .ok (.istore 11, 2) := by decide +kernel
theorem dHD_head_139 : decode cHD_head 139 = .ok (.iload 11, 2) := by decide +kernel
theorem dHD_head_141 : decode cHD_head 141 = .ok (.iload 10, 2) := by decide +kernel
theorem dHD_head_143 : decode cHD_head 143 = .ok (.iload 6, 2) := by decide +kernel
theorem dHD_head_145 : decode cHD_head 145 = .ok (.iadd, 1) := by decide +kernel
theorem dHD_head_146 : decode cHD_head 146 = .ok (.if_icmp .ge 24, 3) := by decide +kernel
theorem dHD_head_149 : decode cHD_head 149 = .ok (.aload_n 0, 1) := by decide +kernel
theorem dHD_head_150 : decode cHD_head 150 = .ok (.aload_n 1, 1) := by decide +kernel
theorem dHD_head_151 : decode cHD_head 151 = .ok (.aload_n 2, 1) := by decide +kernel
theorem dHD_head_152 : decode cHD_head 152 = .ok (.iload 4, 2) := by decide +kernel
theorem dHD_head_154 : decode cHD_head 154 = .ok (.iload 11, 2) := by decide +kernel
theorem dHD_head_156 : decode cHD_head 156 = .ok (.iload 10, 2) := by decide +kernel
theorem dHD_head_158 : decode cHD_head 158 = .ok (.iload 11, 2) := by decide +kernel
theorem dHD_head_160 : decode cHD_head 160 = .ok (.iadd, 1) := by decide +kernel
theorem dHD_head_161 : decode cHD_head 161 = .ok (.invokevirtual 144, 3) := by decide +kernel
theorem dHD_head_164 : decode cHD_head 164 = .ok (.iinc 11 1, 3) := by decide +kernel
theorem dHD_head_167 : decode cHD_head 167 = .ok (.goto (-28), 3) := by decide +kernel
theorem dHD_head_170 : decode cHD_head 170 = .ok (.iinc 9 1, 3) := by decide +kernel
theorem dHD_head_173 : decode cHD_head 173 = .ok (.goto (-55), 3) := by decide +kernel
theorem dHD_head_176 : decode cHD_head 176 = .ok (.return_, 1) := by decide +kernel
abbrev cHD_tellBlock : ByteArray := prog_4_method_6_code
abbrev yHD_tellBlock : MethodName := ⟨"PacketRows$Heads", "tellBlock", "(LPacketRows$Bits;LPacketRows$Rows;III)V"⟩
abbrev wsHD_tellBlock : List Cond := .code yHD_tellBlock cHD_tellBlock 8 (none) :: uU
theorem dHD_tellBlock_0 : decode cHD_tellBlock 0 = .ok (.aload_n 0, 1) := by decide +kernel
theorem dHD_tellBlock_1 : decode cHD_tellBlock 1 = .ok (.getfield 44, 3) := by decide +kernel
theorem dHD_tellBlock_4 : decode cHD_tellBlock 4 = .ok (.iload 4, 2) := by decide +kernel
theorem dHD_tellBlock_6 : decode cHD_tellBlock 6 = .ok (.baload, 1) := by decide +kernel
theorem dHD_tellBlock_7 : decode cHD_tellBlock 7 = .ok (.ifCond .eq 26, 3) := by decide +kernel
theorem dHD_tellBlock_10 : decode cHD_tellBlock 10 = .ok (.aload_n 1, 1) := by decide +kernel
theorem dHD_tellBlock_11 : decode cHD_tellBlock 11 = .ok (.aload_n 2, 1) := by decide +kernel
theorem dHD_tellBlock_12 : decode cHD_tellBlock 12 = .ok (.iload 4, 2) := by decide +kernel
theorem dHD_tellBlock_14 : decode cHD_tellBlock 14 = .ok (.iload_n 3, 1) := by decide +kernel
theorem dHD_tellBlock_15 : decode cHD_tellBlock 15 = .ok (.invokevirtual 148, 3) := by decide +kernel
theorem dHD_tellBlock_18 : decode cHD_tellBlock 18 = .ok (.ifCond .le 7, 3) := by decide +kernel
theorem dHD_tellBlock_21 : decode cHD_tellBlock 21 = .ok (.iconst 1, 1) := by decide +kernel
theorem dHD_tellBlock_22 : decode cHD_tellBlock 22 = .ok (.goto 4, 3) := by decide +kernel
theorem dHD_tellBlock_25 : decode cHD_tellBlock 25 = .ok (.iconst 0, 1) := by decide +kernel
theorem dHD_tellBlock_26 : decode cHD_tellBlock 26 = .ok (.invokevirtual 140, 3) := by decide +kernel
theorem dHD_tellBlock_29 : decode cHD_tellBlock 29 = .ok (.ifCond .ne 75, 3) := by decide +kernel
theorem dHD_tellBlock_32 : decode cHD_tellBlock 32 = .ok (.return_, 1) := by decide +kernel
theorem dHD_tellBlock_33 : decode cHD_tellBlock 33 = .ok (.aload_n 0, 1) := by decide +kernel
theorem dHD_tellBlock_34 : decode cHD_tellBlock 34 = .ok (.getfield 34, 3) := by decide +kernel
theorem dHD_tellBlock_37 : decode cHD_tellBlock 37 = .ok (.aload_n 1, 1) := by decide +kernel
theorem dHD_tellBlock_38 : decode cHD_tellBlock 38 = .ok (.iload 5, 2) := by decide +kernel
theorem dHD_tellBlock_40 : decode cHD_tellBlock 40 = .ok (.iload_n 3, 1) := by decide +kernel
theorem dHD_tellBlock_41 : decode cHD_tellBlock 41 = .ok (.iconst 1, 1) := by decide +kernel
theorem dHD_tellBlock_42 : decode cHD_tellBlock 42 = .ok (.iadd, 1) := by decide +kernel
theorem dHD_tellBlock_43 : decode cHD_tellBlock 43 = .ok (.invokevirtual 151, 3) := by decide +kernel
theorem dHD_tellBlock_46 : decode cHD_tellBlock 46 = .ok (.pop, 1) := by decide +kernel
theorem dHD_tellBlock_47 : decode cHD_tellBlock 47 = .ok (.aload_n 0, 1) := by decide +kernel
theorem dHD_tellBlock_48 : decode cHD_tellBlock 48 = .ok (.getfield 34, 3) := by decide +kernel
theorem dHD_tellBlock_51 : decode cHD_tellBlock 51 = .ok (.iload 5, 2) := by decide +kernel
theorem dHD_tellBlock_53 : decode cHD_tellBlock 53 = .ok (.invokevirtual 155, 3) := by decide +kernel
theorem dHD_tellBlock_56 : decode cHD_tellBlock 56 = .ok (.ifCond .ne 4, 3) := by decide +kernel
theorem dHD_tellBlock_59 : decode cHD_tellBlock 59 = .ok (.return_, 1) := by decide +kernel
theorem dHD_tellBlock_60 : decode cHD_tellBlock 60 = .ok (.aload_n 0, 1) := by decide +kernel
theorem dHD_tellBlock_61 : decode cHD_tellBlock 61 = .ok (.getfield 44, 3) := by decide +kernel
theorem dHD_tellBlock_64 : decode cHD_tellBlock 64 = .ok (.iload 4, 2) := by decide +kernel
theorem dHD_tellBlock_66 : decode cHD_tellBlock 66 = .ok (.iconst 1, 1) := by decide +kernel
theorem dHD_tellBlock_67 : decode cHD_tellBlock 67 = .ok (.bastore, 1) := by decide +kernel
theorem dHD_tellBlock_68 : decode cHD_tellBlock 68 = .ok (.aload_n 2, 1) := by decide +kernel
theorem dHD_tellBlock_69 : decode cHD_tellBlock 69 = .ok (.getfield 127, 3) := by decide +kernel
theorem dHD_tellBlock_72 : decode cHD_tellBlock 72 = .ok (.iload 4, 2) := by decide +kernel
theorem dHD_tellBlock_74 : decode cHD_tellBlock 74 = .ok (.aload_n 0, 1) := by decide +kernel
theorem dHD_tellBlock_75 : decode cHD_tellBlock 75 = .ok (.getfield 38, 3) := by decide +kernel
theorem dHD_tellBlock_78 : decode cHD_tellBlock 78 = .ok (.aload_n 1, 1) := by decide +kernel
theorem dHD_tellBlock_79 : decode cHD_tellBlock 79 = .ok (.iload 5, 2) := by decide +kernel
theorem dHD_tellBlock_81 : decode cHD_tellBlock 81 = .ok (.bipush 31, 2) := by decide +kernel
theorem dHD_tellBlock_83 : decode cHD_tellBlock 83 = .ok (.invokevirtual 151, 3) := by decide +kernel
theorem dHD_tellBlock_86 : decode cHD_tellBlock 86 = .ok (.iastore, 1) := by decide +kernel
theorem dHD_tellBlock_87 : decode cHD_tellBlock 87 = .ok (.aload_n 0, 1) := by decide +kernel
theorem dHD_tellBlock_88 : decode cHD_tellBlock 88 = .ok (.getfield 38, 3) := by decide +kernel
theorem dHD_tellBlock_91 : decode cHD_tellBlock 91 = .ok (.iload 5, 2) := by decide +kernel
theorem dHD_tellBlock_93 : decode cHD_tellBlock 93 = .ok (.invokevirtual 155, 3) := by decide +kernel
theorem dHD_tellBlock_96 : decode cHD_tellBlock 96 = .ok (.ifCond .ne 8, 3) := by decide +kernel
theorem dHD_tellBlock_99 : decode cHD_tellBlock 99 = .ok (.aload_n 1, 1) := by decide +kernel
theorem dHD_tellBlock_100 : decode cHD_tellBlock 100 = .ok (.iconst 3, 1) := by decide +kernel
theorem dHD_tellBlock_101 : decode cHD_tellBlock 101 = .ok (.invokevirtual 159, 3) := by decide +kernel
theorem dHD_tellBlock_104 : decode cHD_tellBlock 104 = .ok (.aload_n 1, 1) := by decide +kernel
theorem dHD_tellBlock_105 : decode cHD_tellBlock 105 = .ok (.aload_n 2, 1) := by decide +kernel
theorem dHD_tellBlock_106 : decode cHD_tellBlock 106 = .ok (.iload 4, 2) := by decide +kernel
theorem dHD_tellBlock_108 : decode cHD_tellBlock 108 = .ok (.iload_n 3, 1) := by decide +kernel
theorem dHD_tellBlock_109 : decode cHD_tellBlock 109 = .ok (.invokevirtual 148, 3) := by decide +kernel
theorem dHD_tellBlock_112 : decode cHD_tellBlock 112 = .ok (.invokestatic 162, 3) := by decide +kernel
theorem dHD_tellBlock_115 : decode cHD_tellBlock 115 = .ok (.istore 6, 2) := by decide +kernel
theorem dHD_tellBlock_117 : decode cHD_tellBlock 117 = .ok (.aload_n 0, 1) := by decide +kernel
theorem dHD_tellBlock_118 : decode cHD_tellBlock 118 = .ok (.aload_n 1, 1) := by decide +kernel
theorem dHD_tellBlock_119 : decode cHD_tellBlock 119 = .ok (.iload 4, 2) := by decide +kernel
theorem dHD_tellBlock_121 : decode cHD_tellBlock 121 = .ok (.iload 6, 2) := by decide +kernel
theorem dHD_tellBlock_123 : decode cHD_tellBlock 123 = .ok (.aload_n 2, 1) := by decide +kernel
theorem dHD_tellBlock_124 : decode cHD_tellBlock 124 = .ok (.iload 4, 2) := by decide +kernel
theorem dHD_tellBlock_126 : decode cHD_tellBlock 126 = .ok (.iload_n 3, 1) := by decide +kernel
theorem dHD_tellBlock_127 : decode cHD_tellBlock 127 = .ok (.invokevirtual 166, 3) := by decide +kernel
theorem dHD_tellBlock_130 : decode cHD_tellBlock 130 = .ok (.invokevirtual 169, 3) := by decide +kernel
theorem dHD_tellBlock_133 : decode cHD_tellBlock 133 = .ok (.istore 7, 2) := by decide +kernel
theorem dHD_tellBlock_135 : decode cHD_tellBlock 135 = .ok (.aload_n 2, 1) := by decide +kernel
theorem dHD_tellBlock_136 : decode cHD_tellBlock 136 = .ok (.iload 4, 2) := by decide +kernel
theorem dHD_tellBlock_138 : decode cHD_tellBlock 138 = .ok (.iload_n 3, 1) := by decide +kernel
theorem dHD_tellBlock_139 : decode cHD_tellBlock 139 = .ok (.iload 6, 2) := by decide +kernel
theorem dHD_tellBlock_141 : decode cHD_tellBlock 141 = .ok (.iload 7, 2) := by decide +kernel
theorem dHD_tellBlock_143 : decode cHD_tellBlock 143 = .ok (.invokevirtual 173, 3) := by decide +kernel
theorem dHD_tellBlock_146 : decode cHD_tellBlock 146 = .ok (.return_, 1) := by decide +kernel
abbrev cHD_tellPasses : ByteArray := prog_4_method_7_code
abbrev yHD_tellPasses : MethodName := ⟨"PacketRows$Heads", "tellPasses", "(LPacketRows$Bits;I)I"⟩
abbrev wsHD_tellPasses : List Cond := .code yHD_tellPasses cHD_tellPasses 4 (some .int) :: uU
theorem dHD_tellPasses_0 : decode cHD_tellPasses 0 = .ok (.aload_n 0, 1) := by decide +kernel
theorem dHD_tellPasses_1 : decode cHD_tellPasses 1 = .ok (.iload_n 1, 1) := by decide +kernel
theorem dHD_tellPasses_2 : decode cHD_tellPasses 2 = .ok (.iconst 1, 1) := by decide +kernel
theorem dHD_tellPasses_3 : decode cHD_tellPasses 3 = .ok (.if_icmp .le 7, 3) := by decide +kernel
theorem dHD_tellPasses_6 : decode cHD_tellPasses 6 = .ok (.iconst 1, 1) := by decide +kernel
theorem dHD_tellPasses_7 : decode cHD_tellPasses 7 = .ok (.goto 4, 3) := by decide +kernel
theorem dHD_tellPasses_10 : decode cHD_tellPasses 10 = .ok (.iconst 0, 1) := by decide +kernel
theorem dHD_tellPasses_11 : decode cHD_tellPasses 11 = .ok (.invokevirtual 140, 3) := by decide +kernel
theorem dHD_tellPasses_14 : decode cHD_tellPasses 14 = .ok (.ifCond .ne 5, 3) := by decide +kernel
theorem dHD_tellPasses_17 : decode cHD_tellPasses 17 = .ok (.iconst 1, 1) := by decide +kernel
theorem dHD_tellPasses_18 : decode cHD_tellPasses 18 = .ok (.ireturn, 1) := by decide +kernel
theorem dHD_tellPasses_19 : decode cHD_tellPasses 19 = .ok (.aload_n 0, 1) := by decide +kernel
theorem dHD_tellPasses_20 : decode cHD_tellPasses 20 = .ok (.iload_n 1, 1) := by decide +kernel
theorem dHD_tellPasses_21 : decode cHD_tellPasses 21 = .ok (.iconst 2, 1) := by decide +kernel
theorem dHD_tellPasses_22 : decode cHD_tellPasses 22 = .ok (.if_icmp .le 7, 3) := by decide +kernel
theorem dHD_tellPasses_25 : decode cHD_tellPasses 25 = .ok (.iconst 1, 1) := by decide +kernel
theorem dHD_tellPasses_26 : decode cHD_tellPasses 26 = .ok (.goto 4, 3) := by decide +kernel
theorem dHD_tellPasses_29 : decode cHD_tellPasses 29 = .ok (.iconst 0, 1) := by decide +kernel
theorem dHD_tellPasses_30 : decode cHD_tellPasses 30 = .ok (.invokevirtual 140, 3) := by decide +kernel
theorem dHD_tellPasses_33 : decode cHD_tellPasses 33 = .ok (.ifCond .ne 5, 3) := by decide +kernel
theorem dHD_tellPasses_36 : decode cHD_tellPasses 36 = .ok (.iconst 2, 1) := by decide +kernel
theorem dHD_tellPasses_37 : decode cHD_tellPasses 37 = .ok (.ireturn, 1) := by decide +kernel
theorem dHD_tellPasses_38 : decode cHD_tellPasses 38 = .ok (.aload_n 0, 1) := by decide +kernel
theorem dHD_tellPasses_39 : decode cHD_tellPasses 39 = .ok (.iload_n 1, 1) := by decide +kernel
theorem dHD_tellPasses_40 : decode cHD_tellPasses 40 = .ok (.iconst 3, 1) := by decide +kernel
theorem dHD_tellPasses_41 : decode cHD_tellPasses 41 = .ok (.isub, 1) := by decide +kernel
theorem dHD_tellPasses_42 : decode cHD_tellPasses 42 = .ok (.iconst 3, 1) := by decide +kernel
theorem dHD_tellPasses_43 : decode cHD_tellPasses 43 = .ok (.invokestatic 177, 3) := by decide +kernel
theorem dHD_tellPasses_46 : decode cHD_tellPasses 46 = .ok (.iconst 2, 1) := by decide +kernel
theorem dHD_tellPasses_47 : decode cHD_tellPasses 47 = .ok (.invokevirtual 182, 3) := by decide +kernel
theorem dHD_tellPasses_50 : decode cHD_tellPasses 50 = .ok (.istore_n 2, 1) := by decide +kernel
theorem dHD_tellPasses_51 : decode cHD_tellPasses 51 = .ok (.iload_n 2, 1) := by decide +kernel
theorem dHD_tellPasses_52 : decode cHD_tellPasses 52 = .ok (.iconst 3, 1) := by decide +kernel
theorem dHD_tellPasses_53 : decode cHD_tellPasses 53 = .ok (.if_icmp .ge 7, 3) := by decide +kernel
theorem dHD_tellPasses_56 : decode cHD_tellPasses 56 = .ok (.iconst 3, 1) := by decide +kernel
theorem dHD_tellPasses_57 : decode cHD_tellPasses 57 = .ok (.iload_n 2, 1) := by decide +kernel
theorem dHD_tellPasses_58 : decode cHD_tellPasses 58 = .ok (.iadd, 1) := by decide +kernel
theorem dHD_tellPasses_59 : decode cHD_tellPasses 59 = .ok (.ireturn, 1) := by decide +kernel
theorem dHD_tellPasses_60 : decode cHD_tellPasses 60 = .ok (.aload_n 0, 1) := by decide +kernel
theorem dHD_tellPasses_61 : decode cHD_tellPasses 61 = .ok (.iload_n 1, 1) := by decide +kernel
theorem dHD_tellPasses_62 : decode cHD_tellPasses 62 = .ok (.bipush 6, 2) := by decide +kernel
theorem dHD_tellPasses_64 : decode cHD_tellPasses 64 = .ok (.isub, 1) := by decide +kernel
theorem dHD_tellPasses_65 : decode cHD_tellPasses 65 = .ok (.bipush 31, 2) := by decide +kernel
theorem dHD_tellPasses_67 : decode cHD_tellPasses 67 = .ok (.invokestatic 177, 3) := by decide +kernel
theorem dHD_tellPasses_70 : decode cHD_tellPasses 70 = .ok (.iconst 5, 1) := by decide +kernel
theorem dHD_tellPasses_71 : decode cHD_tellPasses 71 = .ok (.invokevirtual 182, 3) := by decide +kernel
theorem dHD_tellPasses_74 : decode cHD_tellPasses 74 = .ok (.istore_n 3, 1) := by decide +kernel
theorem dHD_tellPasses_75 : decode cHD_tellPasses 75 = .ok (.iload_n 3, 1) := by decide +kernel
theorem dHD_tellPasses_76 : decode cHD_tellPasses 76 = .ok (.bipush 31, 2) := by decide +kernel
theorem dHD_tellPasses_78 : decode cHD_tellPasses 78 = .ok (.if_icmp .ge 8, 3) := by decide +kernel
theorem dHD_tellPasses_81 : decode cHD_tellPasses 81 = .ok (.bipush 6, 2) := by decide +kernel
theorem dHD_tellPasses_83 : decode cHD_tellPasses 83 = .ok (.iload_n 3, 1) := by decide +kernel
theorem dHD_tellPasses_84 : decode cHD_tellPasses 84 = .ok (.iadd, 1) := by decide +kernel
theorem dHD_tellPasses_85 : decode cHD_tellPasses 85 = .ok (.ireturn, 1) := by decide +kernel
theorem dHD_tellPasses_86 : decode cHD_tellPasses 86 = .ok (.bipush 37, 2) := by decide +kernel
theorem dHD_tellPasses_88 : decode cHD_tellPasses 88 = .ok (.aload_n 0, 1) := by decide +kernel
theorem dHD_tellPasses_89 : decode cHD_tellPasses 89 = .ok (.iload_n 1, 1) := by decide +kernel
theorem dHD_tellPasses_90 : decode cHD_tellPasses 90 = .ok (.bipush 37, 2) := by decide +kernel
theorem dHD_tellPasses_92 : decode cHD_tellPasses 92 = .ok (.isub, 1) := by decide +kernel
theorem dHD_tellPasses_93 : decode cHD_tellPasses 93 = .ok (.bipush 7, 2) := by decide +kernel
theorem dHD_tellPasses_95 : decode cHD_tellPasses 95 = .ok (.invokevirtual 182, 3) := by decide +kernel
theorem dHD_tellPasses_98 : decode cHD_tellPasses 98 = .ok (.iadd, 1) := by decide +kernel
theorem dHD_tellPasses_99 : decode cHD_tellPasses 99 = .ok (.ireturn, 1) := by decide +kernel
abbrev cHD_tellLength : ByteArray := prog_4_method_8_code
abbrev yHD_tellLength : MethodName := ⟨"PacketRows$Heads", "tellLength", "(LPacketRows$Bits;III)I"⟩
abbrev wsHD_tellLength : List Cond := .code yHD_tellLength cHD_tellLength 7 (some .int) :: uU
theorem dHD_tellLength_0 : decode cHD_tellLength 0 = .ok (.iload_n 3, 1) := by decide +kernel
theorem dHD_tellLength_1 : decode cHD_tellLength 1 = .ok (.invokestatic 185, 3) := by decide +kernel
theorem dHD_tellLength_4 : decode cHD_tellLength 4 = .ok (.istore 5, 2) := by decide +kernel
theorem dHD_tellLength_6 : decode cHD_tellLength 6 = .ok (.aload_n 0, 1) := by decide +kernel
theorem dHD_tellLength_7 : decode cHD_tellLength 7 = .ok (.getfield 41, 3) := by decide +kernel
theorem dHD_tellLength_10 : decode cHD_tellLength 10 = .ok (.iload_n 2, 1) := by decide +kernel
theorem dHD_tellLength_11 : decode cHD_tellLength 11 = .ok (.iaload, 1) := by decide +kernel
theorem dHD_tellLength_12 : decode cHD_tellLength 12 = .ok (.iload 5, 2) := by decide +kernel
theorem dHD_tellLength_14 : decode cHD_tellLength 14 = .ok (.iadd, 1) := by decide +kernel
theorem dHD_tellLength_15 : decode cHD_tellLength 15 = .ok (.istore 6, 2) := by decide +kernel
theorem dHD_tellLength_17 : decode cHD_tellLength 17 = .ok (.iload 6, 2) := by decide +kernel
theorem dHD_tellLength_19 : decode cHD_tellLength 19 = .ok (.bipush 24, 2) := by decide +kernel
theorem dHD_tellLength_21 : decode cHD_tellLength 21 = .ok (.if_icmp .gt 29, 3) := by decide +kernel
theorem dHD_tellLength_24 : decode cHD_tellLength 24 = .ok (.aload_n 1, 1) := by decide +kernel
theorem dHD_tellLength_25 : decode cHD_tellLength 25 = .ok (.iload 4, 2) := by decide +kernel
theorem dHD_tellLength_27 : decode cHD_tellLength 27 = .ok (.iload 6, 2) := by decide +kernel
theorem dHD_tellLength_29 : decode cHD_tellLength 29 = .ok (.ishr, 1) := by decide +kernel
theorem dHD_tellLength_30 : decode cHD_tellLength 30 = .ok (.ifCond .le 7, 3) := by decide +kernel
theorem dHD_tellLength_33 : decode cHD_tellLength 33 = .ok (.iconst 1, 1) := by decide +kernel
theorem dHD_tellLength_34 : decode cHD_tellLength 34 = .ok (.goto 4, 3) := by decide +kernel
theorem dHD_tellLength_37 : decode cHD_tellLength 37 = .ok (.iconst 0, 1) := by decide +kernel
theorem dHD_tellLength_38 : decode cHD_tellLength 38 = .ok (.invokevirtual 140, 3) := by decide +kernel
theorem dHD_tellLength_41 : decode cHD_tellLength 41 = .ok (.ifCond .eq 9, 3) := by decide +kernel
theorem dHD_tellLength_44 : decode cHD_tellLength 44 = .ok (.iinc 6 1, 3) := by decide +kernel
theorem dHD_tellLength_47 : decode cHD_tellLength 47 = .ok (.goto (-30), 3) := by decide +kernel
theorem dHD_tellLength_50 : decode cHD_tellLength 50 = .ok (.iload 6, 2) := by decide +kernel
theorem dHD_tellLength_52 : decode cHD_tellLength 52 = .ok (.bipush 24, 2) := by decide +kernel
theorem dHD_tellLength_54 : decode cHD_tellLength 54 = .ok (.if_icmp .le 10, 3) := by decide +kernel
theorem dHD_tellLength_57 : decode cHD_tellLength 57 = .ok (.aload_n 1, 1) := by decide +kernel
theorem dHD_tellLength_58 : decode cHD_tellLength 58 = .ok (.iconst 3, 1) := by decide +kernel
theorem dHD_tellLength_59 : decode cHD_tellLength 59 = .ok (.invokevirtual 159, 3) := by decide +kernel
theorem dHD_tellLength_62 : decode cHD_tellLength 62 = .ok (.iconst 0, 1) := by decide +kernel
theorem dHD_tellLength_63 : decode cHD_tellLength 63 = .ok (.ireturn, 1) := by decide +kernel
theorem dHD_tellLength_64 : decode cHD_tellLength 64 = .ok (.aload_n 0, 1) := by decide +kernel
theorem dHD_tellLength_65 : decode cHD_tellLength 65 = .ok (.getfield 41, 3) := by decide +kernel
theorem dHD_tellLength_68 : decode cHD_tellLength 68 = .ok (.iload_n 2, 1) := by decide +kernel
theorem dHD_tellLength_69 : decode cHD_tellLength 69 = .ok (.iload 6, 2) := by decide +kernel
theorem dHD_tellLength_71 : decode cHD_tellLength 71 = .ok (.iload 5, 2) := by decide +kernel
theorem dHD_tellLength_73 : decode cHD_tellLength 73 = .ok (.isub, 1) := by decide +kernel
theorem dHD_tellLength_74 : decode cHD_tellLength 74 = .ok (.iastore, 1) := by decide +kernel
theorem dHD_tellLength_75 : decode cHD_tellLength 75 = .ok (.aload_n 1, 1) := by decide +kernel
theorem dHD_tellLength_76 : decode cHD_tellLength 76 = .ok (.iload 4, 2) := by decide +kernel
theorem dHD_tellLength_78 : decode cHD_tellLength 78 = .ok (.iload 6, 2) := by decide +kernel
theorem dHD_tellLength_80 : decode cHD_tellLength 80 = .ok (.invokevirtual 182, 3) := by decide +kernel
theorem dHD_tellLength_83 : decode cHD_tellLength 83 = .ok (.ireturn, 1) := by decide +kernel
abbrev cHD_powerNotAbove : ByteArray := prog_4_method_9_code
abbrev yHD_powerNotAbove : MethodName := ⟨"PacketRows$Heads", "powerNotAbove", "(I)I"⟩
abbrev wsHD_powerNotAbove : List Cond := .code yHD_powerNotAbove cHD_powerNotAbove 2 (some .int) :: uU
theorem dHD_powerNotAbove_0 : decode cHD_powerNotAbove 0 = .ok (.iconst 0, 1) := by decide +kernel
theorem dHD_powerNotAbove_1 : decode cHD_powerNotAbove 1 = .ok (.istore_n 1, 1) := by decide +kernel
theorem dHD_powerNotAbove_2 : decode cHD_powerNotAbove 2 = .ok (.iload_n 1, 1) := by decide +kernel
theorem dHD_powerNotAbove_3 : decode cHD_powerNotAbove 3 = .ok (.bipush 8, 2) := by decide +kernel
theorem dHD_powerNotAbove_5 : decode cHD_powerNotAbove 5 = .ok (.if_icmp .ge 16, 3) := by decide +kernel
theorem dHD_powerNotAbove_8 : decode cHD_powerNotAbove 8 = .ok (.iconst 2, 1) := by decide +kernel
theorem dHD_powerNotAbove_9 : decode cHD_powerNotAbove 9 = .ok (.iload_n 1, 1) := by decide +kernel
theorem dHD_powerNotAbove_10 : decode cHD_powerNotAbove 10 = .ok (.ishl, 1) := by decide +kernel
theorem dHD_powerNotAbove_11 : decode cHD_powerNotAbove 11 = .ok (.iload_n 0, 1) := by decide +kernel
theorem dHD_powerNotAbove_12 : decode cHD_powerNotAbove 12 = .ok (.if_icmp .gt 9, 3) := by decide +kernel
theorem dHD_powerNotAbove_15 : decode cHD_powerNotAbove 15 = .ok (.iinc 1 1, 3) := by decide +kernel
theorem dHD_powerNotAbove_18 : decode cHD_powerNotAbove 18 = .ok (.goto (-16), 3) := by decide +kernel
theorem dHD_powerNotAbove_21 : decode cHD_powerNotAbove 21 = .ok (.iload_n 1, 1) := by decide +kernel
theorem dHD_powerNotAbove_22 : decode cHD_powerNotAbove 22 = .ok (.ireturn, 1) := by decide +kernel
abbrev cOD_init : ByteArray := prog_5_method_1_code
abbrev yOD_init : MethodName := ⟨"PacketRows$Order", "<init>", "(LPacketRows$Picture;)V"⟩
abbrev wsOD_init : List Cond := .code yOD_init cOD_init 2 (none) :: uU
theorem dOD_init_0 : decode cOD_init 0 = .ok (.aload_n 0, 1) := by decide +kernel
theorem dOD_init_1 : decode cOD_init 1 = .ok (.invokespecial 3, 3) := by decide +kernel
theorem dOD_init_4 : decode cOD_init 4 = .ok (.aload_n 0, 1) := by decide +kernel
theorem dOD_init_5 : decode cOD_init 5 = .ok (.bipush 6, 2) := by decide +kernel
theorem dOD_init_7 : decode cOD_init 7 = .ok (.newarray .int, 2) := by decide +kernel
theorem dOD_init_9 : decode cOD_init 9 = .ok (.putfield 9, 3) := by decide +kernel
theorem dOD_init_12 : decode cOD_init 12 = .ok (.aload_n 0, 1) := by decide +kernel
theorem dOD_init_13 : decode cOD_init 13 = .ok (.bipush 18, 2) := by decide +kernel
theorem dOD_init_15 : decode cOD_init 15 = .ok (.newarray .int, 2) := by decide +kernel
theorem dOD_init_17 : decode cOD_init 17 = .ok (.putfield 15, 3) := by decide +kernel
theorem dOD_init_20 : decode cOD_init 20 = .ok (.aload_n 0, 1) := by decide +kernel
theorem dOD_init_21 : decode cOD_init 21 = .ok (.iconst 4, 1) := by decide +kernel
theorem dOD_init_22 : decode cOD_init 22 = .ok (.newarray .int, 2) := by decide +kernel
theorem dOD_init_24 : decode cOD_init 24 = .ok (.putfield 18, 3) := by decide +kernel
theorem dOD_init_27 : decode cOD_init 27 = .ok (.aload_n 0, 1) := by decide +kernel
theorem dOD_init_28 : decode cOD_init 28 = .ok (.iconst 4, 1) := by decide +kernel
theorem dOD_init_29 : decode cOD_init 29 = .ok (.newarray .int, 2) := by decide +kernel
theorem dOD_init_31 : decode cOD_init 31 = .ok (.putfield 21, 3) := by decide +kernel
theorem dOD_init_34 : decode cOD_init 34 = .ok (.aload_n 0, 1) := by decide +kernel
theorem dOD_init_35 : decode cOD_init 35 = .ok (.aload_n 1, 1) := by decide +kernel
theorem dOD_init_36 : decode cOD_init 36 = .ok (.putfield 24, 3) := by decide +kernel
theorem dOD_init_39 : decode cOD_init 39 = .ok (.aload_n 0, 1) := by decide +kernel
theorem dOD_init_40 : decode cOD_init 40 = .ok (.aload_n 1, 1) := by decide +kernel
theorem dOD_init_41 : decode cOD_init 41 = .ok (.invokevirtual 28, 3) := by decide +kernel
theorem dOD_init_44 : decode cOD_init 44 = .ok (.iconst 4, 1) := by decide +kernel
theorem dOD_init_45 : decode cOD_init 45 = .ok (.imul, 1) := by decide +kernel
theorem dOD_init_46 : decode cOD_init 46 = .ok (.newarray .int, 2) := by decide +kernel
theorem dOD_init_48 : decode cOD_init 48 = .ok (.putfield 34, 3) := by decide +kernel
theorem dOD_init_51 : decode cOD_init 51 = .ok (.aload_n 0, 1) := by decide +kernel
theorem dOD_init_52 : decode cOD_init 52 = .ok (.aload_n 1, 1) := by decide +kernel
theorem dOD_init_53 : decode cOD_init 53 = .ok (.invokevirtual 28, 3) := by decide +kernel
theorem dOD_init_56 : decode cOD_init 56 = .ok (.newarray .boolean, 2) := by decide +kernel
theorem dOD_init_58 : decode cOD_init 58 = .ok (.putfield 37, 3) := by decide +kernel
theorem dOD_init_61 : decode cOD_init 61 = .ok (.return_, 1) := by decide +kernel
abbrev cOD_addPart : ByteArray := prog_5_method_2_code
abbrev yOD_addPart : MethodName := ⟨"PacketRows$Order", "addPart", "(IIII)V"⟩
abbrev wsOD_addPart : List Cond := .code yOD_addPart cOD_addPart 5 (none) :: uU
theorem dOD_addPart_0 : decode cOD_addPart 0 = .ok (.aload_n 0, 1) := by decide +kernel
theorem dOD_addPart_1 : decode cOD_addPart 1 = .ok (.getfield 9, 3) := by decide +kernel
theorem dOD_addPart_4 : decode cOD_addPart 4 = .ok (.aload_n 0, 1) := by decide +kernel
theorem dOD_addPart_5 : decode cOD_addPart 5 = .ok (.getfield 41, 3) := by decide +kernel
theorem dOD_addPart_8 : decode cOD_addPart 8 = .ok (.iload_n 1, 1) := by decide +kernel
theorem dOD_addPart_9 : decode cOD_addPart 9 = .ok (.iastore, 1) := by decide +kernel
theorem dOD_addPart_10 : decode cOD_addPart 10 = .ok (.aload_n 0, 1) := by decide +kernel
theorem dOD_addPart_11 : decode cOD_addPart 11 = .ok (.getfield 15, 3) := by decide +kernel
theorem dOD_addPart_14 : decode cOD_addPart 14 = .ok (.aload_n 0, 1) := by decide +kernel
theorem dOD_addPart_15 : decode cOD_addPart 15 = .ok (.getfield 41, 3) := by decide +kernel
theorem dOD_addPart_18 : decode cOD_addPart 18 = .ok (.iconst 3, 1) := by decide +kernel
theorem dOD_addPart_19 : decode cOD_addPart 19 = .ok (.imul, 1) := by decide +kernel
theorem dOD_addPart_20 : decode cOD_addPart 20 = .ok (.iconst 0, 1) := by decide +kernel
theorem dOD_addPart_21 : decode cOD_addPart 21 = .ok (.iadd, 1) := by decide +kernel
theorem dOD_addPart_22 : decode cOD_addPart 22 = .ok (.iload_n 2, 1) := by decide +kernel
theorem dOD_addPart_23 : decode cOD_addPart 23 = .ok (.iastore, 1) := by decide +kernel
theorem dOD_addPart_24 : decode cOD_addPart 24 = .ok (.aload_n 0, 1) := by decide +kernel
theorem dOD_addPart_25 : decode cOD_addPart 25 = .ok (.getfield 15, 3) := by decide +kernel
theorem dOD_addPart_28 : decode cOD_addPart 28 = .ok (.aload_n 0, 1) := by decide +kernel
theorem dOD_addPart_29 : decode cOD_addPart 29 = .ok (.getfield 41, 3) := by decide +kernel
theorem dOD_addPart_32 : decode cOD_addPart 32 = .ok (.iconst 3, 1) := by decide +kernel
theorem dOD_addPart_33 : decode cOD_addPart 33 = .ok (.imul, 1) := by decide +kernel
theorem dOD_addPart_34 : decode cOD_addPart 34 = .ok (.iconst 1, 1) := by decide +kernel
theorem dOD_addPart_35 : decode cOD_addPart 35 = .ok (.iadd, 1) := by decide +kernel
theorem dOD_addPart_36 : decode cOD_addPart 36 = .ok (.iload_n 3, 1) := by decide +kernel
theorem dOD_addPart_37 : decode cOD_addPart 37 = .ok (.iastore, 1) := by decide +kernel
theorem dOD_addPart_38 : decode cOD_addPart 38 = .ok (.aload_n 0, 1) := by decide +kernel
theorem dOD_addPart_39 : decode cOD_addPart 39 = .ok (.getfield 15, 3) := by decide +kernel
theorem dOD_addPart_42 : decode cOD_addPart 42 = .ok (.aload_n 0, 1) := by decide +kernel
theorem dOD_addPart_43 : decode cOD_addPart 43 = .ok (.getfield 41, 3) := by decide +kernel
theorem dOD_addPart_46 : decode cOD_addPart 46 = .ok (.iconst 3, 1) := by decide +kernel
theorem dOD_addPart_47 : decode cOD_addPart 47 = .ok (.imul, 1) := by decide +kernel
theorem dOD_addPart_48 : decode cOD_addPart 48 = .ok (.iconst 2, 1) := by decide +kernel
theorem dOD_addPart_49 : decode cOD_addPart 49 = .ok (.iadd, 1) := by decide +kernel
theorem dOD_addPart_50 : decode cOD_addPart 50 = .ok (.iload 4, 2) := by decide +kernel
theorem dOD_addPart_52 : decode cOD_addPart 52 = .ok (.iastore, 1) := by decide +kernel
theorem dOD_addPart_53 : decode cOD_addPart 53 = .ok (.aload_n 0, 1) := by decide +kernel
theorem dOD_addPart_54 : decode cOD_addPart 54 = .ok (.dup, 1) := by decide +kernel
theorem dOD_addPart_55 : decode cOD_addPart 55 = .ok (.getfield 41, 3) := by decide +kernel
theorem dOD_addPart_58 : decode cOD_addPart 58 = .ok (.iconst 1, 1) := by decide +kernel
theorem dOD_addPart_59 : decode cOD_addPart 59 = .ok (.iadd, 1) := by decide +kernel
theorem dOD_addPart_60 : decode cOD_addPart 60 = .ok (.putfield 41, 3) := by decide +kernel
theorem dOD_addPart_63 : decode cOD_addPart 63 = .ok (.return_, 1) := by decide +kernel
abbrev cOD_placeOf : ByteArray := prog_5_method_3_code
abbrev yOD_placeOf : MethodName := ⟨"PacketRows$Order", "placeOf", "(II)I"⟩
abbrev wsOD_placeOf : List Cond := .code yOD_placeOf cOD_placeOf 3 (some .int) :: uU
theorem dOD_placeOf_0 : decode cOD_placeOf 0 = .ok (.aload_n 0, 1) := by decide +kernel
theorem dOD_placeOf_1 : decode cOD_placeOf 1 = .ok (.getfield 34, 3) := by decide +kernel
theorem dOD_placeOf_4 : decode cOD_placeOf 4 = .ok (.iload_n 1, 1) := by decide +kernel
theorem dOD_placeOf_5 : decode cOD_placeOf 5 = .ok (.iconst 4, 1) := by decide +kernel
theorem dOD_placeOf_6 : decode cOD_placeOf 6 = .ok (.imul, 1) := by decide +kernel
theorem dOD_placeOf_7 : decode cOD_placeOf 7 = .ok (.iload_n 2, 1) := by decide +kernel
theorem dOD_placeOf_8 : decode cOD_placeOf 8 = .ok (.iadd, 1) := by decide +kernel
theorem dOD_placeOf_9 : decode cOD_placeOf 9 = .ok (.iaload, 1) := by decide +kernel
theorem dOD_placeOf_10 : decode cOD_placeOf 10 = .ok (.ireturn, 1) := by decide +kernel
abbrev cOD_list : ByteArray := prog_5_method_4_code
abbrev yOD_list : MethodName := ⟨"PacketRows$Order", "list", "()V"⟩
abbrev wsOD_list : List Cond := .code yOD_list cOD_list 3 (none) :: uU
theorem dOD_list_0 : decode cOD_list 0 = .ok (.aload_n 0, 1) := by decide +kernel
theorem dOD_list_1 : decode cOD_list 1 = .ok (.iconst 0, 1) := by decide +kernel
theorem dOD_list_2 : decode cOD_list 2 = .ok (.putfield 45, 3) := by decide +kernel
theorem dOD_list_5 : decode cOD_list 5 = .ok (.iconst 0, 1) := by decide +kernel
theorem dOD_list_6 : decode cOD_list 6 = .ok (.istore_n 1, 1) := by decide +kernel
theorem dOD_list_7 : decode cOD_list 7 = .ok (.iload_n 1, 1) := by decide +kernel
theorem dOD_list_8 : decode cOD_list 8 = .ok (.aload_n 0, 1) := by decide +kernel
theorem dOD_list_9 : decode cOD_list 9 = .ok (.getfield 37, 3) := by decide +kernel
theorem dOD_list_12 : decode cOD_list 12 = .ok (.arraylength, 1) := by decide +kernel
theorem dOD_list_13 : decode cOD_list 13 = .ok (.if_icmp .ge 16, 3) := by decide +kernel
theorem dOD_list_16 : decode cOD_list 16 = .ok (.aload_n 0, 1) := by decide +kernel
theorem dOD_list_17 : decode cOD_list 17 = .ok (.getfield 37, 3) := by decide +kernel
theorem dOD_list_20 : decode cOD_list 20 = .ok (.iload_n 1, 1) := by decide +kernel
theorem dOD_list_21 : decode cOD_list 21 = .ok (.iconst 0, 1) := by decide +kernel
theorem dOD_list_22 : decode cOD_list 22 = .ok (.bastore, 1) := by decide +kernel
theorem dOD_list_23 : decode cOD_list 23 = .ok (.iinc 1 1, 3) := by decide +kernel
theorem dOD_list_26 : decode cOD_list 26 = .ok (.goto (-19), 3) := by decide +kernel
theorem dOD_list_29 : decode cOD_list 29 = .ok (.aload_n 0, 1) := by decide +kernel
theorem dOD_list_30 : decode cOD_list 30 = .ok (.getfield 41, 3) := by decide +kernel
theorem dOD_list_33 : decode cOD_list 33 = .ok (.ifCond .ne 16, 3) := by decide +kernel
theorem dOD_list_36 : decode cOD_list 36 = .ok (.aload_n 0, 1) := by decide +kernel
theorem dOD_list_37 : decode cOD_list 37 = .ok (.bipush 8, 2) := by decide +kernel
theorem dOD_list_39 : decode cOD_list 39 = .ok (.iconst 4, 1) := by decide +kernel
theorem dOD_list_40 : decode cOD_list 40 = .ok (.iconst 3, 1) := by decide +kernel
theorem dOD_list_41 : decode cOD_list 41 = .ok (.invokevirtual 48, 3) := by decide +kernel
theorem dOD_list_44 : decode cOD_list 44 = .ok (.aload_n 0, 1) := by decide +kernel
theorem dOD_list_45 : decode cOD_list 45 = .ok (.iconst 0, 1) := by decide +kernel
theorem dOD_list_46 : decode cOD_list 46 = .ok (.invokevirtual 52, 3) := by decide +kernel
theorem dOD_list_49 : decode cOD_list 49 = .ok (.iconst 0, 1) := by decide +kernel
theorem dOD_list_50 : decode cOD_list 50 = .ok (.istore_n 1, 1) := by decide +kernel
theorem dOD_list_51 : decode cOD_list 51 = .ok (.iload_n 1, 1) := by decide +kernel
theorem dOD_list_52 : decode cOD_list 52 = .ok (.aload_n 0, 1) := by decide +kernel
theorem dOD_list_53 : decode cOD_list 53 = .ok (.getfield 41, 3) := by decide +kernel
theorem dOD_list_56 : decode cOD_list 56 = .ok (.if_icmp .ge 53, 3) := by decide +kernel
theorem dOD_list_59 : decode cOD_list 59 = .ok (.iload_n 1, 1) := by decide +kernel
theorem dOD_list_60 : decode cOD_list 60 = .ok (.iconst 3, 1) := by decide +kernel
theorem dOD_list_61 : decode cOD_list 61 = .ok (.imul, 1) := by decide +kernel
theorem dOD_list_62 : decode cOD_list 62 = .ok (.istore_n 2, 1) := by decide +kernel
theorem dOD_list_63 : decode cOD_list 63 = .ok (.aload_n 0, 1) := by decide +kernel
theorem dOD_list_64 : decode cOD_list 64 = .ok (.aload_n 0, 1) := by decide +kernel
theorem dOD_list_65 : decode cOD_list 65 = .ok (.getfield 15, 3) := by decide +kernel
theorem dOD_list_68 : decode cOD_list 68 = .ok (.iload_n 2, 1) := by decide +kernel
theorem dOD_list_69 : decode cOD_list 69 = .ok (.iconst 0, 1) := by decide +kernel
theorem dOD_list_70 : decode cOD_list 70 = .ok (.iadd, 1) := by decide +kernel
theorem dOD_list_71 : decode cOD_list 71 = .ok (.iaload, 1) := by decide +kernel
theorem dOD_list_72 : decode cOD_list 72 = .ok (.aload_n 0, 1) := by decide +kernel
theorem dOD_list_73 : decode cOD_list 73 = .ok (.getfield 15, 3) := by decide +kernel
theorem dOD_list_76 : decode cOD_list 76 = .ok (.iload_n 2, 1) := by decide +kernel
theorem dOD_list_77 : decode cOD_list 77 = .ok (.iconst 1, 1) := by decide +kernel
theorem dOD_list_78 : decode cOD_list 78 = .ok (.iadd, 1) := by decide +kernel
theorem dOD_list_79 : decode cOD_list 79 = .ok (.iaload, 1) := by decide +kernel
theorem dOD_list_80 : decode cOD_list 80 = .ok (.aload_n 0, 1) := by decide +kernel
theorem dOD_list_81 : decode cOD_list 81 = .ok (.getfield 15, 3) := by decide +kernel
theorem dOD_list_84 : decode cOD_list 84 = .ok (.iload_n 2, 1) := by decide +kernel
theorem dOD_list_85 : decode cOD_list 85 = .ok (.iconst 2, 1) := by decide +kernel
theorem dOD_list_86 : decode cOD_list 86 = .ok (.iadd, 1) := by decide +kernel
theorem dOD_list_87 : decode cOD_list 87 = .ok (.iaload, 1) := by decide +kernel
theorem dOD_list_88 : decode cOD_list 88 = .ok (.invokevirtual 48, 3) := by decide +kernel
theorem dOD_list_91 : decode cOD_list 91 = .ok (.aload_n 0, 1) := by decide +kernel
theorem dOD_list_92 : decode cOD_list 92 = .ok (.aload_n 0, 1) := by decide +kernel
theorem dOD_list_93 : decode cOD_list 93 = .ok (.getfield 9, 3) := by decide +kernel
theorem dOD_list_96 : decode cOD_list 96 = .ok (.iload_n 1, 1) := by decide +kernel
theorem dOD_list_97 : decode cOD_list 97 = .ok (.iaload, 1) := by decide +kernel
theorem dOD_list_98 : decode cOD_list 98 = .ok (.iconst 4, 1) := by decide +kernel
theorem dOD_list_99 : decode cOD_list 99 = .ok (.imul, 1) := by decide +kernel
theorem dOD_list_100 : decode cOD_list 100 = .ok (.invokevirtual 52, 3) := by decide +kernel
theorem dOD_list_103 : decode cOD_list 103 = .ok (.iinc 1 1, 3) := by decide +kernel
theorem dOD_list_106 : decode cOD_list 106 = .ok (.goto (-55), 3) := by decide +kernel
theorem dOD_list_109 : decode cOD_list 109 = .ok (.return_, 1) := by decide +kernel
abbrev cOD_setEnds : ByteArray := prog_5_method_5_code
abbrev yOD_setEnds : MethodName := ⟨"PacketRows$Order", "setEnds", "(III)V"⟩
abbrev wsOD_setEnds : List Cond := .code yOD_setEnds cOD_setEnds 4 (none) :: uU
theorem dOD_setEnds_0 : decode cOD_setEnds 0 = .ok (.aload_n 0, 1) := by decide +kernel
theorem dOD_setEnds_1 : decode cOD_setEnds 1 = .ok (.getfield 18, 3) := by decide +kernel
theorem dOD_setEnds_4 : decode cOD_setEnds 4 = .ok (.iconst 0, 1) := by decide +kernel
theorem dOD_setEnds_5 : decode cOD_setEnds 5 = .ok (.iload_n 1, 1) := by decide +kernel
theorem dOD_setEnds_6 : decode cOD_setEnds 6 = .ok (.aload_n 0, 1) := by decide +kernel
theorem dOD_setEnds_7 : decode cOD_setEnds 7 = .ok (.getfield 24, 3) := by decide +kernel
theorem dOD_setEnds_10 : decode cOD_setEnds 10 = .ok (.getfield 56, 3) := by decide +kernel
theorem dOD_setEnds_13 : decode cOD_setEnds 13 = .ok (.invokestatic 59, 3) := by decide +kernel
theorem dOD_setEnds_16 : decode cOD_setEnds 16 = .ok (.iastore, 1) := by decide +kernel
theorem dOD_setEnds_17 : decode cOD_setEnds 17 = .ok (.aload_n 0, 1) := by decide +kernel
theorem dOD_setEnds_18 : decode cOD_setEnds 18 = .ok (.getfield 18, 3) := by decide +kernel
theorem dOD_setEnds_21 : decode cOD_setEnds 21 = .ok (.iconst 1, 1) := by decide +kernel
theorem dOD_setEnds_22 : decode cOD_setEnds 22 = .ok (.iload_n 2, 1) := by decide +kernel
theorem dOD_setEnds_23 : decode cOD_setEnds 23 = .ok (.aload_n 0, 1) := by decide +kernel
theorem dOD_setEnds_24 : decode cOD_setEnds 24 = .ok (.getfield 24, 3) := by decide +kernel
theorem dOD_setEnds_27 : decode cOD_setEnds 27 = .ok (.getfield 65, 3) := by decide +kernel
theorem dOD_setEnds_30 : decode cOD_setEnds 30 = .ok (.invokestatic 59, 3) := by decide +kernel
theorem dOD_setEnds_33 : decode cOD_setEnds 33 = .ok (.iastore, 1) := by decide +kernel
theorem dOD_setEnds_34 : decode cOD_setEnds 34 = .ok (.aload_n 0, 1) := by decide +kernel
theorem dOD_setEnds_35 : decode cOD_setEnds 35 = .ok (.getfield 18, 3) := by decide +kernel
theorem dOD_setEnds_38 : decode cOD_setEnds 38 = .ok (.iconst 2, 1) := by decide +kernel
theorem dOD_setEnds_39 : decode cOD_setEnds 39 = .ok (.iload_n 3, 1) := by decide +kernel
theorem dOD_setEnds_40 : decode cOD_setEnds 40 = .ok (.aload_n 0, 1) := by decide +kernel
theorem dOD_setEnds_41 : decode cOD_setEnds 41 = .ok (.getfield 24, 3) := by decide +kernel
theorem dOD_setEnds_44 : decode cOD_setEnds 44 = .ok (.getfield 68, 3) := by decide +kernel
theorem dOD_setEnds_47 : decode cOD_setEnds 47 = .ok (.invokestatic 59, 3) := by decide +kernel
theorem dOD_setEnds_50 : decode cOD_setEnds 50 = .ok (.iastore, 1) := by decide +kernel
theorem dOD_setEnds_51 : decode cOD_setEnds 51 = .ok (.aload_n 0, 1) := by decide +kernel
theorem dOD_setEnds_52 : decode cOD_setEnds 52 = .ok (.getfield 18, 3) := by decide +kernel
theorem dOD_setEnds_55 : decode cOD_setEnds 55 = .ok (.iconst 3, 1) := by decide +kernel
theorem dOD_setEnds_56 : decode cOD_setEnds 56 = .ok (.iconst 4, 1) := by decide +kernel
theorem dOD_setEnds_57 : decode cOD_setEnds 57 = .ok (.iastore, 1) := by decide +kernel
theorem dOD_setEnds_58 : decode cOD_setEnds 58 = .ok (.return_, 1) := by decide +kernel
abbrev cOD_goRound : ByteArray := prog_5_method_6_code
abbrev yOD_goRound : MethodName := ⟨"PacketRows$Order", "goRound", "(I)V"⟩
abbrev wsOD_goRound : List Cond := .code yOD_goRound cOD_goRound 6 (none) :: uU
theorem dOD_goRound_0 : decode cOD_goRound 0 = .ok (.getstatic 71, 3) := by decide +kernel
theorem dOD_goRound_3 : decode cOD_goRound 3 = .ok (.iload_n 1, 1) := by decide +kernel
theorem dOD_goRound_4 : decode cOD_goRound 4 = .ok (.iaload, 1) := by decide +kernel
theorem dOD_goRound_5 : decode cOD_goRound 5 = .ok (.istore_n 2, 1) := by decide +kernel
theorem dOD_goRound_6 : decode cOD_goRound 6 = .ok (.getstatic 71, 3) := by decide +kernel
theorem dOD_goRound_9 : decode cOD_goRound 9 = .ok (.iload_n 1, 1) := by decide +kernel
theorem dOD_goRound_10 : decode cOD_goRound 10 = .ok (.iconst 1, 1) := by decide +kernel
theorem dOD_goRound_11 : decode cOD_goRound 11 = .ok (.iadd, 1) := by decide +kernel
theorem dOD_goRound_12 : decode cOD_goRound 12 = .ok (.iaload, 1) := by decide +kernel
theorem dOD_goRound_13 : decode cOD_goRound 13 = .ok (.istore_n 3, 1) := by decide +kernel
theorem dOD_goRound_14 : decode cOD_goRound 14 = .ok (.getstatic 71, 3) := by decide +kernel
theorem dOD_goRound_17 : decode cOD_goRound 17 = .ok (.iload_n 1, 1) := by decide +kernel
theorem dOD_goRound_18 : decode cOD_goRound 18 = .ok (.iconst 2, 1) := by decide +kernel
theorem dOD_goRound_19 : decode cOD_goRound 19 = .ok (.iadd, 1) := by decide +kernel
theorem dOD_goRound_20 : decode cOD_goRound 20 = .ok (.iaload, 1) := by decide +kernel
theorem dOD_goRound_21 : decode cOD_goRound 21 = .ok (.istore 4, 2) := by decide +kernel
theorem dOD_goRound_23 : decode cOD_goRound 23 = .ok (.getstatic 71, 3) := by decide +kernel
theorem dOD_goRound_26 : decode cOD_goRound 26 = .ok (.iload_n 1, 1) := by decide +kernel
theorem dOD_goRound_27 : decode cOD_goRound 27 = .ok (.iconst 3, 1) := by decide +kernel
theorem dOD_goRound_28 : decode cOD_goRound 28 = .ok (.iadd, 1) := by decide +kernel
theorem dOD_goRound_29 : decode cOD_goRound 29 = .ok (.iaload, 1) := by decide +kernel
theorem dOD_goRound_30 : decode cOD_goRound 30 = .ok (.istore 5, 2) := by decide +kernel
theorem dOD_goRound_32 : decode cOD_goRound 32 = .ok (.aload_n 0, 1) := by decide +kernel
theorem dOD_goRound_33 : decode cOD_goRound 33 = .ok (.getfield 21, 3) := by decide +kernel
theorem dOD_goRound_36 : decode cOD_goRound 36 = .ok (.iload_n 2, 1) := by decide +kernel
theorem dOD_goRound_37 : decode cOD_goRound 37 = .ok (.iconst 0, 1) := by decide +kernel
theorem dOD_goRound_38 : decode cOD_goRound 38 = .ok (.iastore, 1) := by decide +kernel
theorem dOD_goRound_39 : decode cOD_goRound 39 = .ok (.aload_n 0, 1) := by decide +kernel
theorem dOD_goRound_40 : decode cOD_goRound 40 = .ok (.getfield 21, 3) := by decide +kernel
theorem dOD_goRound_43 : decode cOD_goRound 43 = .ok (.iload_n 2, 1) := by decide +kernel
theorem dOD_goRound_44 : decode cOD_goRound 44 = .ok (.iaload, 1) := by decide +kernel
theorem dOD_goRound_45 : decode cOD_goRound 45 = .ok (.aload_n 0, 1) := by decide +kernel
theorem dOD_goRound_46 : decode cOD_goRound 46 = .ok (.getfield 18, 3) := by decide +kernel
theorem dOD_goRound_49 : decode cOD_goRound 49 = .ok (.iload_n 2, 1) := by decide +kernel
theorem dOD_goRound_50 : decode cOD_goRound 50 = .ok (.iaload, 1) := by decide +kernel
theorem dOD_goRound_51 : decode cOD_goRound 51 = .ok (.if_icmp .ge 133, 3) := by decide +kernel
theorem dOD_goRound_54 : decode cOD_goRound 54 = .ok (.aload_n 0, 1) := by decide +kernel
theorem dOD_goRound_55 : decode cOD_goRound 55 = .ok (.getfield 21, 3) := by decide +kernel
theorem dOD_goRound_58 : decode cOD_goRound 58 = .ok (.iload_n 3, 1) := by decide +kernel
theorem dOD_goRound_59 : decode cOD_goRound 59 = .ok (.iconst 0, 1) := by decide +kernel
theorem dOD_goRound_60 : decode cOD_goRound 60 = .ok (.iastore, 1) := by decide +kernel
theorem dOD_goRound_61 : decode cOD_goRound 61 = .ok (.aload_n 0, 1) := by decide +kernel
theorem dOD_goRound_62 : decode cOD_goRound 62 = .ok (.getfield 21, 3) := by decide +kernel
theorem dOD_goRound_65 : decode cOD_goRound 65 = .ok (.iload_n 3, 1) := by decide +kernel
theorem dOD_goRound_66 : decode cOD_goRound 66 = .ok (.iaload, 1) := by decide +kernel
theorem dOD_goRound_67 : decode cOD_goRound 67 = .ok (.aload_n 0, 1) := by decide +kernel
theorem dOD_goRound_68 : decode cOD_goRound 68 = .ok (.getfield 18, 3) := by decide +kernel
theorem dOD_goRound_71 : decode cOD_goRound 71 = .ok (.iload_n 3, 1) := by decide +kernel
theorem dOD_goRound_72 : decode cOD_goRound 72 = .ok (.iaload, 1) := by decide +kernel
theorem dOD_goRound_73 : decode cOD_goRound 73 = .ok (.if_icmp .ge 98, 3) := by decide +kernel
theorem dOD_goRound_76 : decode cOD_goRound 76 = .ok (.aload_n 0, 1) := by decide +kernel
theorem dOD_goRound_77 : decode cOD_goRound 77 = .ok (.getfield 21, 3) := by decide +kernel
theorem dOD_goRound_80 : decode cOD_goRound 80 = .ok (.iload 4, 2) := by decide +kernel
theorem dOD_goRound_82 : decode cOD_goRound 82 = .ok (.iconst 0, 1) := by decide +kernel
theorem dOD_goRound_83 : decode cOD_goRound 83 = .ok (.iastore, 1) := by decide +kernel
theorem dOD_goRound_84 : decode cOD_goRound 84 = .ok (.aload_n 0, 1) := by decide +kernel
theorem dOD_goRound_85 : decode cOD_goRound 85 = .ok (.getfield 21, 3) := by decide +kernel
theorem dOD_goRound_88 : decode cOD_goRound 88 = .ok (.iload 4, 2) := by decide +kernel
theorem dOD_goRound_90 : decode cOD_goRound 90 = .ok (.iaload, 1) := by decide +kernel
theorem dOD_goRound_91 : decode cOD_goRound 91 = .ok (.aload_n 0, 1) := by decide +kernel
theorem dOD_goRound_92 : decode cOD_goRound 92 = .ok (.getfield 18, 3) := by decide +kernel
theorem dOD_goRound_95 : decode cOD_goRound 95 = .ok (.iload 4, 2) := by decide +kernel
theorem dOD_goRound_97 : decode cOD_goRound 97 = .ok (.iaload, 1) := by decide +kernel
theorem dOD_goRound_98 : decode cOD_goRound 98 = .ok (.if_icmp .ge 60, 3) := by decide +kernel
theorem dOD_goRound_101 : decode cOD_goRound 101 = .ok (.aload_n 0, 1) := by decide +kernel
theorem dOD_goRound_102 : decode cOD_goRound 102 = .ok (.getfield 21, 3) := by decide +kernel
theorem dOD_goRound_105 : decode cOD_goRound 105 = .ok (.iload 5, 2) := by decide +kernel
theorem dOD_goRound_107 : decode cOD_goRound 107 = .ok (.iconst 0, 1) := by decide +kernel
theorem dOD_goRound_108 : decode cOD_goRound 108 = .ok (.iastore, 1) := by decide +kernel
theorem dOD_goRound_109 : decode cOD_goRound 109 = .ok (.aload_n 0, 1) := by decide +kernel
theorem dOD_goRound_110 : decode cOD_goRound 110 = .ok (.getfield 21, 3) := by decide +kernel
theorem dOD_goRound_113 : decode cOD_goRound 113 = .ok (.iload 5, 2) := by decide +kernel
theorem dOD_goRound_115 : decode cOD_goRound 115 = .ok (.iaload, 1) := by decide +kernel
theorem dOD_goRound_116 : decode cOD_goRound 116 = .ok (.aload_n 0, 1) := by decide +kernel
theorem dOD_goRound_117 : decode cOD_goRound 117 = .ok (.getfield 18, 3) := by decide +kernel
theorem dOD_goRound_120 : decode cOD_goRound 120 = .ok (.iload 5, 2) := by decide +kernel
theorem dOD_goRound_122 : decode cOD_goRound 122 = .ok (.iaload, 1) := by decide +kernel
theorem dOD_goRound_123 : decode cOD_goRound 123 = .ok (.if_icmp .ge 21, 3) := by decide +kernel
theorem dOD_goRound_126 : decode cOD_goRound 126 = .ok (.aload_n 0, 1) := by decide +kernel
theorem dOD_goRound_127 : decode cOD_goRound 127 = .ok (.invokevirtual 74, 3) := by decide +kernel
theorem dOD_goRound_130 : decode cOD_goRound 130 = .ok (.aload_n 0, 1) := by decide +kernel
theorem dOD_goRound_131 : decode cOD_goRound 131 = .ok (.getfield 21, 3) := by decide +kernel
theorem dOD_goRound_134 : decode cOD_goRound 134 = .ok (.iload 5, 2) := by decide +kernel
theorem dOD_goRound_136 : decode cOD_goRound 136 = .ok (.dup2, 1) := by decide +kernel
theorem dOD_goRound_137 : decode cOD_goRound 137 = .ok (.iaload, 1) := by decide +kernel
theorem dOD_goRound_138 : decode cOD_goRound 138 = .ok (.iconst 1, 1) := by decide +kernel
theorem dOD_goRound_139 : decode cOD_goRound 139 = .ok (.iadd, 1) := by decide +kernel
theorem dOD_goRound_140 : decode cOD_goRound 140 = .ok (.iastore, 1) := by decide +kernel
theorem dOD_goRound_141 : decode cOD_goRound 141 = .ok (.goto (-32), 3) := by decide +kernel
theorem dOD_goRound_144 : decode cOD_goRound 144 = .ok (.aload_n 0, 1) := by decide +kernel
theorem dOD_goRound_145 : decode cOD_goRound 145 = .ok (.getfield 21, 3) := by decide +kernel
theorem dOD_goRound_148 : decode cOD_goRound 148 = .ok (.iload 4, 2) := by decide +kernel
theorem dOD_goRound_150 : decode cOD_goRound 150 = .ok (.dup2, 1) := by decide +kernel
theorem dOD_goRound_151 : decode cOD_goRound 151 = .ok (.iaload, 1) := by decide +kernel
theorem dOD_goRound_152 : decode cOD_goRound 152 = .ok (.iconst 1, 1) := by decide +kernel
theorem dOD_goRound_153 : decode cOD_goRound 153 = .ok (.iadd, 1) := by decide +kernel
theorem dOD_goRound_154 : decode cOD_goRound 154 = .ok (.iastore, 1) := by decide +kernel
theorem dOD_goRound_155 : decode cOD_goRound 155 = .ok (.goto (-71), 3) := by decide +kernel
theorem dOD_goRound_158 : decode cOD_goRound 158 = .ok (.aload_n 0, 1) := by decide +kernel
theorem dOD_goRound_159 : decode cOD_goRound 159 = .ok (.getfield 21, 3) := by decide +kernel
theorem dOD_goRound_162 : decode cOD_goRound 162 = .ok (.iload_n 3, 1) := by decide +kernel
theorem dOD_goRound_163 : decode cOD_goRound 163 = .ok (.dup2, 1) := by decide +kernel
theorem dOD_goRound_164 : decode cOD_goRound 164 = .ok (.iaload, 1) := by decide +kernel
theorem dOD_goRound_165 : decode cOD_goRound 165 = .ok (.iconst 1, 1) := by decide +kernel
theorem dOD_goRound_166 : decode cOD_goRound 166 = .ok (.iadd, 1) := by decide +kernel
theorem dOD_goRound_167 : decode cOD_goRound 167 = .ok (.iastore, 1) := by decide +kernel
theorem dOD_goRound_168 : decode cOD_goRound 168 = .ok (.goto (-107), 3) := by decide +kernel
theorem dOD_goRound_171 : decode cOD_goRound 171 = .ok (.aload_n 0, 1) := by decide +kernel
theorem dOD_goRound_172 : decode cOD_goRound 172 = .ok (.getfield 21, 3) := by decide +kernel
theorem dOD_goRound_175 : decode cOD_goRound 175 = .ok (.iload_n 2, 1) := by decide +kernel
theorem dOD_goRound_176 : decode cOD_goRound 176 = .ok (.dup2, 1) := by decide +kernel
theorem dOD_goRound_177 : decode cOD_goRound 177 = .ok (.iaload, 1) := by decide +kernel
theorem dOD_goRound_178 : decode cOD_goRound 178 = .ok (.iconst 1, 1) := by decide +kernel
theorem dOD_goRound_179 : decode cOD_goRound 179 = .ok (.iadd, 1) := by decide +kernel
theorem dOD_goRound_180 : decode cOD_goRound 180 = .ok (.iastore, 1) := by decide +kernel
theorem dOD_goRound_181 : decode cOD_goRound 181 = .ok (.goto (-142), 3) := by decide +kernel
theorem dOD_goRound_184 : decode cOD_goRound 184 = .ok (.return_, 1) := by decide +kernel
abbrev cOD_listPacket : ByteArray := prog_5_method_7_code
abbrev yOD_listPacket : MethodName := ⟨"PacketRows$Order", "listPacket", "()V"⟩
abbrev wsOD_listPacket : List Cond := .code yOD_listPacket cOD_listPacket 4 (none) :: uU
theorem dOD_listPacket_0 : decode cOD_listPacket 0 = .ok (.aload_n 0, 1) := by decide +kernel
theorem dOD_listPacket_1 : decode cOD_listPacket 1 = .ok (.getfield 21, 3) := by decide +kernel
theorem dOD_listPacket_4 : decode cOD_listPacket 4 = .ok (.iconst 2, 1) := by decide +kernel
theorem dOD_listPacket_5 : decode cOD_listPacket 5 = .ok (.iaload, 1) := by decide +kernel
theorem dOD_listPacket_6 : decode cOD_listPacket 6 = .ok (.aload_n 0, 1) := by decide +kernel
theorem dOD_listPacket_7 : decode cOD_listPacket 7 = .ok (.getfield 24, 3) := by decide +kernel
theorem dOD_listPacket_10 : decode cOD_listPacket 10 = .ok (.getfield 65, 3) := by decide +kernel
theorem dOD_listPacket_13 : decode cOD_listPacket 13 = .ok (.imul, 1) := by decide +kernel
theorem dOD_listPacket_14 : decode cOD_listPacket 14 = .ok (.aload_n 0, 1) := by decide +kernel
theorem dOD_listPacket_15 : decode cOD_listPacket 15 = .ok (.getfield 21, 3) := by decide +kernel
theorem dOD_listPacket_18 : decode cOD_listPacket 18 = .ok (.iconst 1, 1) := by decide +kernel
theorem dOD_listPacket_19 : decode cOD_listPacket 19 = .ok (.iaload, 1) := by decide +kernel
theorem dOD_listPacket_20 : decode cOD_listPacket 20 = .ok (.iadd, 1) := by decide +kernel
theorem dOD_listPacket_21 : decode cOD_listPacket 21 = .ok (.istore_n 1, 1) := by decide +kernel
theorem dOD_listPacket_22 : decode cOD_listPacket 22 = .ok (.iload_n 1, 1) := by decide +kernel
theorem dOD_listPacket_23 : decode cOD_listPacket 23 = .ok (.aload_n 0, 1) := by decide +kernel
theorem dOD_listPacket_24 : decode cOD_listPacket 24 = .ok (.getfield 24, 3) := by decide +kernel
theorem dOD_listPacket_27 : decode cOD_listPacket 27 = .ok (.getfield 56, 3) := by decide +kernel
theorem dOD_listPacket_30 : decode cOD_listPacket 30 = .ok (.imul, 1) := by decide +kernel
theorem dOD_listPacket_31 : decode cOD_listPacket 31 = .ok (.aload_n 0, 1) := by decide +kernel
theorem dOD_listPacket_32 : decode cOD_listPacket 32 = .ok (.getfield 21, 3) := by decide +kernel
theorem dOD_listPacket_35 : decode cOD_listPacket 35 = .ok (.iconst 0, 1) := by decide +kernel
theorem dOD_listPacket_36 : decode cOD_listPacket 36 = .ok (.iaload, 1) := by decide +kernel
theorem dOD_listPacket_37 : decode cOD_listPacket 37 = .ok (.iadd, 1) := by decide +kernel
theorem dOD_listPacket_38 : decode cOD_listPacket 38 = .ok (.iconst 4, 1) := by decide +kernel
theorem dOD_listPacket_39 : decode cOD_listPacket 39 = .ok (.imul, 1) := by decide +kernel
theorem dOD_listPacket_40 : decode cOD_listPacket 40 = .ok (.aload_n 0, 1) := by decide +kernel
theorem dOD_listPacket_41 : decode cOD_listPacket 41 = .ok (.getfield 21, 3) := by decide +kernel
theorem dOD_listPacket_44 : decode cOD_listPacket 44 = .ok (.iconst 3, 1) := by decide +kernel
theorem dOD_listPacket_45 : decode cOD_listPacket 45 = .ok (.iaload, 1) := by decide +kernel
theorem dOD_listPacket_46 : decode cOD_listPacket 46 = .ok (.iadd, 1) := by decide +kernel
theorem dOD_listPacket_47 : decode cOD_listPacket 47 = .ok (.istore_n 2, 1) := by decide +kernel
theorem dOD_listPacket_48 : decode cOD_listPacket 48 = .ok (.aload_n 0, 1) := by decide +kernel
theorem dOD_listPacket_49 : decode cOD_listPacket 49 = .ok (.getfield 21, 3) := by decide +kernel
theorem dOD_listPacket_52 : decode cOD_listPacket 52 = .ok (.iconst 3, 1) := by decide +kernel
theorem dOD_listPacket_53 : decode cOD_listPacket 53 = .ok (.iaload, 1) := by decide +kernel
theorem dOD_listPacket_54 : decode cOD_listPacket 54 = .ok (.aload_n 0, 1) := by decide +kernel
theorem dOD_listPacket_55 : decode cOD_listPacket 55 = .ok (.getfield 24, 3) := by decide +kernel
theorem dOD_listPacket_58 : decode cOD_listPacket 58 = .ok (.getfield 77, 3) := by decide +kernel
theorem dOD_listPacket_61 : decode cOD_listPacket 61 = .ok (.iload_n 1, 1) := by decide +kernel
theorem dOD_listPacket_62 : decode cOD_listPacket 62 = .ok (.iaload, 1) := by decide +kernel
theorem dOD_listPacket_63 : decode cOD_listPacket 63 = .ok (.if_icmp .ge 12, 3) := by decide +kernel
theorem dOD_listPacket_66 : decode cOD_listPacket 66 = .ok (.aload_n 0, 1) := by decide +kernel
theorem dOD_listPacket_67 : decode cOD_listPacket 67 = .ok (.getfield 37, 3) := by decide +kernel
theorem dOD_listPacket_70 : decode cOD_listPacket 70 = .ok (.iload_n 2, 1) := by decide +kernel
theorem dOD_listPacket_71 : decode cOD_listPacket 71 = .ok (.baload, 1) := by decide +kernel
theorem dOD_listPacket_72 : decode cOD_listPacket 72 = .ok (.ifCond .eq 4, 3) := by decide +kernel
theorem dOD_listPacket_75 : decode cOD_listPacket 75 = .ok (.return_, 1) := by decide +kernel
theorem dOD_listPacket_76 : decode cOD_listPacket 76 = .ok (.aload_n 0, 1) := by decide +kernel
theorem dOD_listPacket_77 : decode cOD_listPacket 77 = .ok (.getfield 37, 3) := by decide +kernel
theorem dOD_listPacket_80 : decode cOD_listPacket 80 = .ok (.iload_n 2, 1) := by decide +kernel
theorem dOD_listPacket_81 : decode cOD_listPacket 81 = .ok (.iconst 1, 1) := by decide +kernel
theorem dOD_listPacket_82 : decode cOD_listPacket 82 = .ok (.bastore, 1) := by decide +kernel
theorem dOD_listPacket_83 : decode cOD_listPacket 83 = .ok (.iconst 0, 1) := by decide +kernel
theorem dOD_listPacket_84 : decode cOD_listPacket 84 = .ok (.istore_n 3, 1) := by decide +kernel
theorem dOD_listPacket_85 : decode cOD_listPacket 85 = .ok (.iload_n 3, 1) := by decide +kernel
theorem dOD_listPacket_86 : decode cOD_listPacket 86 = .ok (.iconst 4, 1) := by decide +kernel
theorem dOD_listPacket_87 : decode cOD_listPacket 87 = .ok (.if_icmp .ge 28, 3) := by decide +kernel
theorem dOD_listPacket_90 : decode cOD_listPacket 90 = .ok (.aload_n 0, 1) := by decide +kernel
theorem dOD_listPacket_91 : decode cOD_listPacket 91 = .ok (.getfield 34, 3) := by decide +kernel
theorem dOD_listPacket_94 : decode cOD_listPacket 94 = .ok (.aload_n 0, 1) := by decide +kernel
theorem dOD_listPacket_95 : decode cOD_listPacket 95 = .ok (.getfield 45, 3) := by decide +kernel
theorem dOD_listPacket_98 : decode cOD_listPacket 98 = .ok (.iconst 4, 1) := by decide +kernel
theorem dOD_listPacket_99 : decode cOD_listPacket 99 = .ok (.imul, 1) := by decide +kernel
theorem dOD_listPacket_100 : decode cOD_listPacket 100 = .ok (.iload_n 3, 1) := by decide +kernel
theorem dOD_listPacket_101 : decode cOD_listPacket 101 = .ok (.iadd, 1) := by decide +kernel
theorem dOD_listPacket_102 : decode cOD_listPacket 102 = .ok (.aload_n 0, 1) := by decide +kernel
theorem dOD_listPacket_103 : decode cOD_listPacket 103 = .ok (.getfield 21, 3) := by decide +kernel
theorem dOD_listPacket_106 : decode cOD_listPacket 106 = .ok (.iload_n 3, 1) := by decide +kernel
theorem dOD_listPacket_107 : decode cOD_listPacket 107 = .ok (.iaload, 1) := by decide +kernel
theorem dOD_listPacket_108 : decode cOD_listPacket 108 = .ok (.iastore, 1) := by decide +kernel
theorem dOD_listPacket_109 : decode cOD_listPacket 109 = .ok (.iinc 3 1, 3) := by decide +kernel
theorem dOD_listPacket_112 : decode cOD_listPacket 112 = .ok (.goto (-27), 3) := by decide +kernel
theorem dOD_listPacket_115 : decode cOD_listPacket 115 = .ok (.aload_n 0, 1) := by decide +kernel
theorem dOD_listPacket_116 : decode cOD_listPacket 116 = .ok (.dup, 1) := by decide +kernel
theorem dOD_listPacket_117 : decode cOD_listPacket 117 = .ok (.getfield 45, 3) := by decide +kernel
theorem dOD_listPacket_120 : decode cOD_listPacket 120 = .ok (.iconst 1, 1) := by decide +kernel
theorem dOD_listPacket_121 : decode cOD_listPacket 121 = .ok (.iadd, 1) := by decide +kernel
theorem dOD_listPacket_122 : decode cOD_listPacket 122 = .ok (.putfield 45, 3) := by decide +kernel
theorem dOD_listPacket_125 : decode cOD_listPacket 125 = .ok (.return_, 1) := by decide +kernel
abbrev cPC_init : ByteArray := prog_6_method_1_code
abbrev yPC_init : MethodName := ⟨"PacketRows$Picture", "<init>", "(II)V"⟩
abbrev wsPC_init : List Cond := .code yPC_init cPC_init 4 (none) :: uU
theorem dPC_init_0 : decode cPC_init 0 = .ok (.aload_n 0, 1) := by decide +kernel
theorem dPC_init_1 : decode cPC_init 1 = .ok (.invokespecial 3, 3) := by decide +kernel
theorem dPC_init_4 : decode cPC_init 4 = .ok (.aload_n 0, 1) := by decide +kernel
theorem dPC_init_5 : decode cPC_init 5 = .ok (.iload_n 1, 1) := by decide +kernel
theorem dPC_init_6 : decode cPC_init 6 = .ok (.putfield 9, 3) := by decide +kernel
theorem dPC_init_9 : decode cPC_init 9 = .ok (.aload_n 0, 1) := by decide +kernel
theorem dPC_init_10 : decode cPC_init 10 = .ok (.iload_n 2, 1) := by decide +kernel
theorem dPC_init_11 : decode cPC_init 11 = .ok (.iconst 1, 1) := by decide +kernel
theorem dPC_init_12 : decode cPC_init 12 = .ok (.iadd, 1) := by decide +kernel
theorem dPC_init_13 : decode cPC_init 13 = .ok (.putfield 15, 3) := by decide +kernel
theorem dPC_init_16 : decode cPC_init 16 = .ok (.iconst 3, 1) := by decide +kernel
theorem dPC_init_17 : decode cPC_init 17 = .ok (.aload_n 0, 1) := by decide +kernel
theorem dPC_init_18 : decode cPC_init 18 = .ok (.getfield 15, 3) := by decide +kernel
theorem dPC_init_21 : decode cPC_init 21 = .ok (.imul, 1) := by decide +kernel
theorem dPC_init_22 : decode cPC_init 22 = .ok (.istore_n 3, 1) := by decide +kernel
theorem dPC_init_23 : decode cPC_init 23 = .ok (.aload_n 0, 1) := by decide +kernel
theorem dPC_init_24 : decode cPC_init 24 = .ok (.iload_n 3, 1) := by decide +kernel
theorem dPC_init_25 : decode cPC_init 25 = .ok (.newarray .int, 2) := by decide +kernel
theorem dPC_init_27 : decode cPC_init 27 = .ok (.putfield 18, 3) := by decide +kernel
theorem dPC_init_30 : decode cPC_init 30 = .ok (.aload_n 0, 1) := by decide +kernel
theorem dPC_init_31 : decode cPC_init 31 = .ok (.iload_n 3, 1) := by decide +kernel
theorem dPC_init_32 : decode cPC_init 32 = .ok (.newarray .int, 2) := by decide +kernel
theorem dPC_init_34 : decode cPC_init 34 = .ok (.putfield 22, 3) := by decide +kernel
theorem dPC_init_37 : decode cPC_init 37 = .ok (.aload_n 0, 1) := by decide +kernel
theorem dPC_init_38 : decode cPC_init 38 = .ok (.iload_n 3, 1) := by decide +kernel
theorem dPC_init_39 : decode cPC_init 39 = .ok (.newarray .int, 2) := by decide +kernel
theorem dPC_init_41 : decode cPC_init 41 = .ok (.putfield 25, 3) := by decide +kernel
theorem dPC_init_44 : decode cPC_init 44 = .ok (.aload_n 0, 1) := by decide +kernel
theorem dPC_init_45 : decode cPC_init 45 = .ok (.iload_n 3, 1) := by decide +kernel
theorem dPC_init_46 : decode cPC_init 46 = .ok (.newarray .int, 2) := by decide +kernel
theorem dPC_init_48 : decode cPC_init 48 = .ok (.putfield 28, 3) := by decide +kernel
theorem dPC_init_51 : decode cPC_init 51 = .ok (.aload_n 0, 1) := by decide +kernel
theorem dPC_init_52 : decode cPC_init 52 = .ok (.iload_n 3, 1) := by decide +kernel
theorem dPC_init_53 : decode cPC_init 53 = .ok (.iconst 1, 1) := by decide +kernel
theorem dPC_init_54 : decode cPC_init 54 = .ok (.iadd, 1) := by decide +kernel
theorem dPC_init_55 : decode cPC_init 55 = .ok (.newarray .int, 2) := by decide +kernel
theorem dPC_init_57 : decode cPC_init 57 = .ok (.putfield 31, 3) := by decide +kernel
theorem dPC_init_60 : decode cPC_init 60 = .ok (.aload_n 0, 1) := by decide +kernel
theorem dPC_init_61 : decode cPC_init 61 = .ok (.invokevirtual 34, 3) := by decide +kernel
theorem dPC_init_64 : decode cPC_init 64 = .ok (.return_, 1) := by decide +kernel
abbrev cPC_mostBlocks : ByteArray := prog_6_method_2_code
abbrev yPC_mostBlocks : MethodName := ⟨"PacketRows$Picture", "mostBlocks", "()I"⟩
abbrev wsPC_mostBlocks : List Cond := .code yPC_mostBlocks cPC_mostBlocks 4 (some .int) :: uU
theorem dPC_mostBlocks_0 : decode cPC_mostBlocks 0 = .ok (.aload_n 0, 1) := by decide +kernel
theorem dPC_mostBlocks_1 : decode cPC_mostBlocks 1 = .ok (.getfield 15, 3) := by decide +kernel
theorem dPC_mostBlocks_4 : decode cPC_mostBlocks 4 = .ok (.iconst 1, 1) := by decide +kernel
theorem dPC_mostBlocks_5 : decode cPC_mostBlocks 5 = .ok (.isub, 1) := by decide +kernel
theorem dPC_mostBlocks_6 : decode cPC_mostBlocks 6 = .ok (.istore_n 1, 1) := by decide +kernel
theorem dPC_mostBlocks_7 : decode cPC_mostBlocks 7 = .ok (.sipush 400, 3) := by decide +kernel
theorem dPC_mostBlocks_10 : decode cPC_mostBlocks 10 = .ok (.iconst 2, 1) := by decide +kernel
theorem dPC_mostBlocks_11 : decode cPC_mostBlocks 11 = .ok (.iconst 1, 1) := by decide +kernel
theorem dPC_mostBlocks_12 : decode cPC_mostBlocks 12 = .ok (.iconst 3, 1) := by decide +kernel
theorem dPC_mostBlocks_13 : decode cPC_mostBlocks 13 = .ok (.iload_n 1, 1) := by decide +kernel
theorem dPC_mostBlocks_14 : decode cPC_mostBlocks 14 = .ok (.imul, 1) := by decide +kernel
theorem dPC_mostBlocks_15 : decode cPC_mostBlocks 15 = .ok (.iadd, 1) := by decide +kernel
theorem dPC_mostBlocks_16 : decode cPC_mostBlocks 16 = .ok (.imul, 1) := by decide +kernel
theorem dPC_mostBlocks_17 : decode cPC_mostBlocks 17 = .ok (.iadd, 1) := by decide +kernel
theorem dPC_mostBlocks_18 : decode cPC_mostBlocks 18 = .ok (.istore_n 2, 1) := by decide +kernel
theorem dPC_mostBlocks_19 : decode cPC_mostBlocks 19 = .ok (.iconst 3, 1) := by decide +kernel
theorem dPC_mostBlocks_20 : decode cPC_mostBlocks 20 = .ok (.iconst 1, 1) := by decide +kernel
theorem dPC_mostBlocks_21 : decode cPC_mostBlocks 21 = .ok (.iconst 3, 1) := by decide +kernel
theorem dPC_mostBlocks_22 : decode cPC_mostBlocks 22 = .ok (.iload_n 1, 1) := by decide +kernel
theorem dPC_mostBlocks_23 : decode cPC_mostBlocks 23 = .ok (.imul, 1) := by decide +kernel
theorem dPC_mostBlocks_24 : decode cPC_mostBlocks 24 = .ok (.iadd, 1) := by decide +kernel
theorem dPC_mostBlocks_25 : decode cPC_mostBlocks 25 = .ok (.imul, 1) := by decide +kernel
theorem dPC_mostBlocks_26 : decode cPC_mostBlocks 26 = .ok (.iconst 4, 1) := by decide +kernel
theorem dPC_mostBlocks_27 : decode cPC_mostBlocks 27 = .ok (.imul, 1) := by decide +kernel
theorem dPC_mostBlocks_28 : decode cPC_mostBlocks 28 = .ok (.iconst 4, 1) := by decide +kernel
theorem dPC_mostBlocks_29 : decode cPC_mostBlocks 29 = .ok (.imul, 1) := by decide +kernel
theorem dPC_mostBlocks_30 : decode cPC_mostBlocks 30 = .ok (.iconst 3, 1) := by decide +kernel
theorem dPC_mostBlocks_31 : decode cPC_mostBlocks 31 = .ok (.imul, 1) := by decide +kernel
theorem dPC_mostBlocks_32 : decode cPC_mostBlocks 32 = .ok (.istore_n 3, 1) := by decide +kernel
theorem dPC_mostBlocks_33 : decode cPC_mostBlocks 33 = .ok (.iload_n 2, 1) := by decide +kernel
theorem dPC_mostBlocks_34 : decode cPC_mostBlocks 34 = .ok (.iload_n 3, 1) := by decide +kernel
theorem dPC_mostBlocks_35 : decode cPC_mostBlocks 35 = .ok (.invokestatic 37, 3) := by decide +kernel
theorem dPC_mostBlocks_38 : decode cPC_mostBlocks 38 = .ok (.ireturn, 1) := by decide +kernel
abbrev cPC_mostPackets : ByteArray := prog_6_method_3_code
abbrev yPC_mostPackets : MethodName := ⟨"PacketRows$Picture", "mostPackets", "()I"⟩
abbrev wsPC_mostPackets : List Cond := .code yPC_mostPackets cPC_mostPackets 1 (some .int) :: uU
theorem dPC_mostPackets_0 : decode cPC_mostPackets 0 = .ok (.aload_n 0, 1) := by decide +kernel
theorem dPC_mostPackets_1 : decode cPC_mostPackets 1 = .ok (.getfield 9, 3) := by decide +kernel
theorem dPC_mostPackets_4 : decode cPC_mostPackets 4 = .ok (.aload_n 0, 1) := by decide +kernel
theorem dPC_mostPackets_5 : decode cPC_mostPackets 5 = .ok (.getfield 15, 3) := by decide +kernel
theorem dPC_mostPackets_8 : decode cPC_mostPackets 8 = .ok (.imul, 1) := by decide +kernel
theorem dPC_mostPackets_9 : decode cPC_mostPackets 9 = .ok (.iconst 3, 1) := by decide +kernel
theorem dPC_mostPackets_10 : decode cPC_mostPackets 10 = .ok (.imul, 1) := by decide +kernel
theorem dPC_mostPackets_11 : decode cPC_mostPackets 11 = .ok (.iconst 4, 1) := by decide +kernel
theorem dPC_mostPackets_12 : decode cPC_mostPackets 12 = .ok (.imul, 1) := by decide +kernel
theorem dPC_mostPackets_13 : decode cPC_mostPackets 13 = .ok (.ireturn, 1) := by decide +kernel
abbrev cPC_slots : ByteArray := prog_6_method_4_code
abbrev yPC_slots : MethodName := ⟨"PacketRows$Picture", "slots", "()I"⟩
abbrev wsPC_slots : List Cond := .code yPC_slots cPC_slots 1 (some .int) :: uU
theorem dPC_slots_0 : decode cPC_slots 0 = .ok (.aload_n 0, 1) := by decide +kernel
theorem dPC_slots_1 : decode cPC_slots 1 = .ok (.getfield 43, 3) := by decide +kernel
theorem dPC_slots_4 : decode cPC_slots 4 = .ok (.aload_n 0, 1) := by decide +kernel
theorem dPC_slots_5 : decode cPC_slots 5 = .ok (.getfield 15, 3) := by decide +kernel
theorem dPC_slots_8 : decode cPC_slots 8 = .ok (.imul, 1) := by decide +kernel
theorem dPC_slots_9 : decode cPC_slots 9 = .ok (.ireturn, 1) := by decide +kernel
abbrev cPC_slotOf : ByteArray := prog_6_method_5_code
abbrev yPC_slotOf : MethodName := ⟨"PacketRows$Picture", "slotOf", "(II)I"⟩
abbrev wsPC_slotOf : List Cond := .code yPC_slotOf cPC_slotOf 3 (some .int) :: uU
theorem dPC_slotOf_0 : decode cPC_slotOf 0 = .ok (.iload_n 1, 1) := by decide +kernel
theorem dPC_slotOf_1 : decode cPC_slotOf 1 = .ok (.iconst 0, 1) := by decide +kernel
theorem dPC_slotOf_2 : decode cPC_slotOf 2 = .ok (.aload_n 0, 1) := by decide +kernel
theorem dPC_slotOf_3 : decode cPC_slotOf 3 = .ok (.getfield 43, 3) := by decide +kernel
theorem dPC_slotOf_6 : decode cPC_slotOf 6 = .ok (.iconst 1, 1) := by decide +kernel
theorem dPC_slotOf_7 : decode cPC_slotOf 7 = .ok (.isub, 1) := by decide +kernel
theorem dPC_slotOf_8 : decode cPC_slotOf 8 = .ok (.invokestatic 46, 3) := by decide +kernel
theorem dPC_slotOf_11 : decode cPC_slotOf 11 = .ok (.ifCond .eq 17, 3) := by decide +kernel
theorem dPC_slotOf_14 : decode cPC_slotOf 14 = .ok (.iload_n 2, 1) := by decide +kernel
theorem dPC_slotOf_15 : decode cPC_slotOf 15 = .ok (.iconst 0, 1) := by decide +kernel
theorem dPC_slotOf_16 : decode cPC_slotOf 16 = .ok (.aload_n 0, 1) := by decide +kernel
theorem dPC_slotOf_17 : decode cPC_slotOf 17 = .ok (.getfield 15, 3) := by decide +kernel
theorem dPC_slotOf_20 : decode cPC_slotOf 20 = .ok (.iconst 1, 1) := by decide +kernel
theorem dPC_slotOf_21 : decode cPC_slotOf 21 = .ok (.isub, 1) := by decide +kernel
theorem dPC_slotOf_22 : decode cPC_slotOf 22 = .ok (.invokestatic 46, 3) := by decide +kernel
theorem dPC_slotOf_25 : decode cPC_slotOf 25 = .ok (.ifCond .ne 5, 3) := by decide +kernel
theorem dPC_slotOf_28 : decode cPC_slotOf 28 = .ok (.iconst (-1), 1) := by decide +kernel
theorem dPC_slotOf_29 : decode cPC_slotOf 29 = .ok (.ireturn, 1) := by decide +kernel
theorem dPC_slotOf_30 : decode cPC_slotOf 30 = .ok (.iload_n 1, 1) := by decide +kernel
theorem dPC_slotOf_31 : decode cPC_slotOf 31 = .ok (.aload_n 0, 1) := by decide +kernel
theorem dPC_slotOf_32 : decode cPC_slotOf 32 = .ok (.getfield 15, 3) := by decide +kernel
theorem dPC_slotOf_35 : decode cPC_slotOf 35 = .ok (.imul, 1) := by decide +kernel
theorem dPC_slotOf_36 : decode cPC_slotOf 36 = .ok (.iload_n 2, 1) := by decide +kernel
theorem dPC_slotOf_37 : decode cPC_slotOf 37 = .ok (.iadd, 1) := by decide +kernel
theorem dPC_slotOf_38 : decode cPC_slotOf 38 = .ok (.ireturn, 1) := by decide +kernel
abbrev cPC_blocks : ByteArray := prog_6_method_6_code
abbrev yPC_blocks : MethodName := ⟨"PacketRows$Picture", "blocks", "()I"⟩
abbrev wsPC_blocks : List Cond := .code yPC_blocks cPC_blocks 1 (some .int) :: uU
theorem dPC_blocks_0 : decode cPC_blocks 0 = .ok (.aload_n 0, 1) := by decide +kernel
theorem dPC_blocks_1 : decode cPC_blocks 1 = .ok (.getfield 31, 3) := by decide +kernel
theorem dPC_blocks_4 : decode cPC_blocks 4 = .ok (.aload_n 0, 1) := by decide +kernel
theorem dPC_blocks_5 : decode cPC_blocks 5 = .ok (.invokevirtual 50, 3) := by decide +kernel
theorem dPC_blocks_8 : decode cPC_blocks 8 = .ok (.iaload, 1) := by decide +kernel
theorem dPC_blocks_9 : decode cPC_blocks 9 = .ok (.ireturn, 1) := by decide +kernel
abbrev cPC_bandSize : ByteArray := prog_6_method_7_code
abbrev yPC_bandSize : MethodName := ⟨"PacketRows$Picture", "bandSize", "(I)I"⟩
abbrev wsPC_bandSize : List Cond := .code yPC_bandSize cPC_bandSize 2 (some .int) :: uU
theorem dPC_bandSize_0 : decode cPC_bandSize 0 = .ok (.aload_n 0, 1) := by decide +kernel
theorem dPC_bandSize_1 : decode cPC_bandSize 1 = .ok (.getfield 25, 3) := by decide +kernel
theorem dPC_bandSize_4 : decode cPC_bandSize 4 = .ok (.iload_n 1, 1) := by decide +kernel
theorem dPC_bandSize_5 : decode cPC_bandSize 5 = .ok (.iaload, 1) := by decide +kernel
theorem dPC_bandSize_6 : decode cPC_bandSize 6 = .ok (.aload_n 0, 1) := by decide +kernel
theorem dPC_bandSize_7 : decode cPC_bandSize 7 = .ok (.getfield 28, 3) := by decide +kernel
theorem dPC_bandSize_10 : decode cPC_bandSize 10 = .ok (.iload_n 1, 1) := by decide +kernel
theorem dPC_bandSize_11 : decode cPC_bandSize 11 = .ok (.iaload, 1) := by decide +kernel
theorem dPC_bandSize_12 : decode cPC_bandSize 12 = .ok (.imul, 1) := by decide +kernel
theorem dPC_bandSize_13 : decode cPC_bandSize 13 = .ok (.ireturn, 1) := by decide +kernel
abbrev cPC_slotSize : ByteArray := prog_6_method_8_code
abbrev yPC_slotSize : MethodName := ⟨"PacketRows$Picture", "slotSize", "(I)I"⟩
abbrev wsPC_slotSize : List Cond := .code yPC_slotSize cPC_slotSize 2 (some .int) :: uU
theorem dPC_slotSize_0 : decode cPC_slotSize 0 = .ok (.aload_n 0, 1) := by decide +kernel
theorem dPC_slotSize_1 : decode cPC_slotSize 1 = .ok (.getfield 22, 3) := by decide +kernel
theorem dPC_slotSize_4 : decode cPC_slotSize 4 = .ok (.iload_n 1, 1) := by decide +kernel
theorem dPC_slotSize_5 : decode cPC_slotSize 5 = .ok (.iaload, 1) := by decide +kernel
theorem dPC_slotSize_6 : decode cPC_slotSize 6 = .ok (.aload_n 0, 1) := by decide +kernel
theorem dPC_slotSize_7 : decode cPC_slotSize 7 = .ok (.getfield 18, 3) := by decide +kernel
theorem dPC_slotSize_10 : decode cPC_slotSize 10 = .ok (.iload_n 1, 1) := by decide +kernel
theorem dPC_slotSize_11 : decode cPC_slotSize 11 = .ok (.iaload, 1) := by decide +kernel
theorem dPC_slotSize_12 : decode cPC_slotSize 12 = .ok (.imul, 1) := by decide +kernel
theorem dPC_slotSize_13 : decode cPC_slotSize 13 = .ok (.aload_n 0, 1) := by decide +kernel
theorem dPC_slotSize_14 : decode cPC_slotSize 14 = .ok (.iload_n 1, 1) := by decide +kernel
theorem dPC_slotSize_15 : decode cPC_slotSize 15 = .ok (.invokevirtual 54, 3) := by decide +kernel
theorem dPC_slotSize_18 : decode cPC_slotSize 18 = .ok (.imul, 1) := by decide +kernel
theorem dPC_slotSize_19 : decode cPC_slotSize 19 = .ok (.ireturn, 1) := by decide +kernel
abbrev cPC_hasBlock : ByteArray := prog_6_method_9_code
abbrev yPC_hasBlock : MethodName := ⟨"PacketRows$Picture", "hasBlock", "(IIII)Z"⟩
abbrev wsPC_hasBlock : List Cond := .code yPC_hasBlock cPC_hasBlock 5 (some .boolean) :: uU
theorem dPC_hasBlock_0 : decode cPC_hasBlock 0 = .ok (.iload_n 2, 1) := by decide +kernel
theorem dPC_hasBlock_1 : decode cPC_hasBlock 1 = .ok (.iconst 0, 1) := by decide +kernel
theorem dPC_hasBlock_2 : decode cPC_hasBlock 2 = .ok (.aload_n 0, 1) := by decide +kernel
theorem dPC_hasBlock_3 : decode cPC_hasBlock 3 = .ok (.getfield 22, 3) := by decide +kernel
theorem dPC_hasBlock_6 : decode cPC_hasBlock 6 = .ok (.iload_n 1, 1) := by decide +kernel
theorem dPC_hasBlock_7 : decode cPC_hasBlock 7 = .ok (.iaload, 1) := by decide +kernel
theorem dPC_hasBlock_8 : decode cPC_hasBlock 8 = .ok (.iconst 1, 1) := by decide +kernel
theorem dPC_hasBlock_9 : decode cPC_hasBlock 9 = .ok (.isub, 1) := by decide +kernel
theorem dPC_hasBlock_10 : decode cPC_hasBlock 10 = .ok (.invokestatic 46, 3) := by decide +kernel
theorem dPC_hasBlock_13 : decode cPC_hasBlock 13 = .ok (.ifCond .eq 39, 3) := by decide +kernel
theorem dPC_hasBlock_16 : decode cPC_hasBlock 16 = .ok (.iload_n 3, 1) := by decide +kernel
theorem dPC_hasBlock_17 : decode cPC_hasBlock 17 = .ok (.iconst 0, 1) := by decide +kernel
theorem dPC_hasBlock_18 : decode cPC_hasBlock 18 = .ok (.aload_n 0, 1) := by decide +kernel
theorem dPC_hasBlock_19 : decode cPC_hasBlock 19 = .ok (.getfield 18, 3) := by decide +kernel
theorem dPC_hasBlock_22 : decode cPC_hasBlock 22 = .ok (.iload_n 1, 1) := by decide +kernel
theorem dPC_hasBlock_23 : decode cPC_hasBlock 23 = .ok (.iaload, 1) := by decide +kernel
theorem dPC_hasBlock_24 : decode cPC_hasBlock 24 = .ok (.iconst 1, 1) := by decide +kernel
theorem dPC_hasBlock_25 : decode cPC_hasBlock 25 = .ok (.isub, 1) := by decide +kernel
theorem dPC_hasBlock_26 : decode cPC_hasBlock 26 = .ok (.invokestatic 46, 3) := by decide +kernel
theorem dPC_hasBlock_29 : decode cPC_hasBlock 29 = .ok (.ifCond .eq 23, 3) := by decide +kernel
theorem dPC_hasBlock_32 : decode cPC_hasBlock 32 = .ok (.iload 4, 2) := by decide +kernel
theorem dPC_hasBlock_34 : decode cPC_hasBlock 34 = .ok (.iconst 0, 1) := by decide +kernel
theorem dPC_hasBlock_35 : decode cPC_hasBlock 35 = .ok (.aload_n 0, 1) := by decide +kernel
theorem dPC_hasBlock_36 : decode cPC_hasBlock 36 = .ok (.iload_n 1, 1) := by decide +kernel
theorem dPC_hasBlock_37 : decode cPC_hasBlock 37 = .ok (.invokevirtual 54, 3) := by decide +kernel
theorem dPC_hasBlock_40 : decode cPC_hasBlock 40 = .ok (.iconst 1, 1) := by decide +kernel
theorem dPC_hasBlock_41 : decode cPC_hasBlock 41 = .ok (.isub, 1) := by decide +kernel
theorem dPC_hasBlock_42 : decode cPC_hasBlock 42 = .ok (.invokestatic 46, 3) := by decide +kernel
theorem dPC_hasBlock_45 : decode cPC_hasBlock 45 = .ok (.ifCond .eq 7, 3) := by decide +kernel
theorem dPC_hasBlock_48 : decode cPC_hasBlock 48 = .ok (.iconst 1, 1) := by decide +kernel
theorem dPC_hasBlock_49 : decode cPC_hasBlock 49 = .ok (.goto 4, 3) := by decide +kernel
theorem dPC_hasBlock_52 : decode cPC_hasBlock 52 = .ok (.iconst 0, 1) := by decide +kernel
theorem dPC_hasBlock_53 : decode cPC_hasBlock 53 = .ok (.ireturn, 1) := by decide +kernel
abbrev cPC_grow : ByteArray := prog_6_method_10_code
abbrev yPC_grow : MethodName := ⟨"PacketRows$Picture", "grow", "()V"⟩
abbrev wsPC_grow : List Cond := .code yPC_grow cPC_grow 3 (none) :: uU
theorem dPC_grow_0 : decode cPC_grow 0 = .ok (.aload_n 0, 1) := by decide +kernel
theorem dPC_grow_1 : decode cPC_grow 1 = .ok (.invokevirtual 50, 3) := by decide +kernel
theorem dPC_grow_4 : decode cPC_grow 4 = .ok (.istore_n 1, 1) := by decide +kernel
theorem dPC_grow_5 : decode cPC_grow 5 = .ok (.aload_n 0, 1) := by decide +kernel
theorem dPC_grow_6 : decode cPC_grow 6 = .ok (.dup, 1) := by decide +kernel
theorem dPC_grow_7 : decode cPC_grow 7 = .ok (.getfield 43, 3) := by decide +kernel
theorem dPC_grow_10 : decode cPC_grow 10 = .ok (.iconst 1, 1) := by decide +kernel
theorem dPC_grow_11 : decode cPC_grow 11 = .ok (.iadd, 1) := by decide +kernel
theorem dPC_grow_12 : decode cPC_grow 12 = .ok (.putfield 43, 3) := by decide +kernel
theorem dPC_grow_15 : decode cPC_grow 15 = .ok (.iconst 0, 1) := by decide +kernel
theorem dPC_grow_16 : decode cPC_grow 16 = .ok (.istore_n 2, 1) := by decide +kernel
theorem dPC_grow_17 : decode cPC_grow 17 = .ok (.iload_n 2, 1) := by decide +kernel
theorem dPC_grow_18 : decode cPC_grow 18 = .ok (.aload_n 0, 1) := by decide +kernel
theorem dPC_grow_19 : decode cPC_grow 19 = .ok (.getfield 15, 3) := by decide +kernel
theorem dPC_grow_22 : decode cPC_grow 22 = .ok (.if_icmp .ge 53, 3) := by decide +kernel
theorem dPC_grow_25 : decode cPC_grow 25 = .ok (.aload_n 0, 1) := by decide +kernel
theorem dPC_grow_26 : decode cPC_grow 26 = .ok (.getfield 18, 3) := by decide +kernel
theorem dPC_grow_29 : decode cPC_grow 29 = .ok (.iload_n 1, 1) := by decide +kernel
theorem dPC_grow_30 : decode cPC_grow 30 = .ok (.iload_n 2, 1) := by decide +kernel
theorem dPC_grow_31 : decode cPC_grow 31 = .ok (.iadd, 1) := by decide +kernel
theorem dPC_grow_32 : decode cPC_grow 32 = .ok (.iload_n 2, 1) := by decide +kernel
theorem dPC_grow_33 : decode cPC_grow 33 = .ok (.ifCond .ne 7, 3) := by decide +kernel
theorem dPC_grow_36 : decode cPC_grow 36 = .ok (.iconst 1, 1) := by decide +kernel
theorem dPC_grow_37 : decode cPC_grow 37 = .ok (.goto 4, 3) := by decide +kernel
theorem dPC_grow_40 : decode cPC_grow 40 = .ok (.iconst 3, 1) := by decide +kernel
theorem dPC_grow_41 : decode cPC_grow 41 = .ok (.iastore, 1) := by decide +kernel
theorem dPC_grow_42 : decode cPC_grow 42 = .ok (.aload_n 0, 1) := by decide +kernel
theorem dPC_grow_43 : decode cPC_grow 43 = .ok (.getfield 22, 3) := by decide +kernel
theorem dPC_grow_46 : decode cPC_grow 46 = .ok (.iload_n 1, 1) := by decide +kernel
theorem dPC_grow_47 : decode cPC_grow 47 = .ok (.iload_n 2, 1) := by decide +kernel
theorem dPC_grow_48 : decode cPC_grow 48 = .ok (.iadd, 1) := by decide +kernel
theorem dPC_grow_49 : decode cPC_grow 49 = .ok (.iconst 1, 1) := by decide +kernel
theorem dPC_grow_50 : decode cPC_grow 50 = .ok (.iastore, 1) := by decide +kernel
theorem dPC_grow_51 : decode cPC_grow 51 = .ok (.aload_n 0, 1) := by decide +kernel
theorem dPC_grow_52 : decode cPC_grow 52 = .ok (.getfield 25, 3) := by decide +kernel
theorem dPC_grow_55 : decode cPC_grow 55 = .ok (.iload_n 1, 1) := by decide +kernel
theorem dPC_grow_56 : decode cPC_grow 56 = .ok (.iload_n 2, 1) := by decide +kernel
theorem dPC_grow_57 : decode cPC_grow 57 = .ok (.iadd, 1) := by decide +kernel
theorem dPC_grow_58 : decode cPC_grow 58 = .ok (.iconst 1, 1) := by decide +kernel
theorem dPC_grow_59 : decode cPC_grow 59 = .ok (.iastore, 1) := by decide +kernel
theorem dPC_grow_60 : decode cPC_grow 60 = .ok (.aload_n 0, 1) := by decide +kernel
theorem dPC_grow_61 : decode cPC_grow 61 = .ok (.getfield 28, 3) := by decide +kernel
theorem dPC_grow_64 : decode cPC_grow 64 = .ok (.iload_n 1, 1) := by decide +kernel
theorem dPC_grow_65 : decode cPC_grow 65 = .ok (.iload_n 2, 1) := by decide +kernel
theorem dPC_grow_66 : decode cPC_grow 66 = .ok (.iadd, 1) := by decide +kernel
theorem dPC_grow_67 : decode cPC_grow 67 = .ok (.iconst 1, 1) := by decide +kernel
theorem dPC_grow_68 : decode cPC_grow 68 = .ok (.iastore, 1) := by decide +kernel
theorem dPC_grow_69 : decode cPC_grow 69 = .ok (.iinc 2 1, 3) := by decide +kernel
theorem dPC_grow_72 : decode cPC_grow 72 = .ok (.goto (-55), 3) := by decide +kernel
theorem dPC_grow_75 : decode cPC_grow 75 = .ok (.aload_n 0, 1) := by decide +kernel
theorem dPC_grow_76 : decode cPC_grow 76 = .ok (.invokevirtual 58, 3) := by decide +kernel
theorem dPC_grow_79 : decode cPC_grow 79 = .ok (.return_, 1) := by decide +kernel
abbrev cPC_shape : ByteArray := prog_6_method_11_code
abbrev yPC_shape : MethodName := ⟨"PacketRows$Picture", "shape", "(IIII)V"⟩
abbrev wsPC_shape : List Cond := .code yPC_shape cPC_shape 5 (none) :: uU
theorem dPC_shape_0 : decode cPC_shape 0 = .ok (.aload_n 0, 1) := by decide +kernel
theorem dPC_shape_1 : decode cPC_shape 1 = .ok (.getfield 22, 3) := by decide +kernel
theorem dPC_shape_4 : decode cPC_shape 4 = .ok (.iload_n 1, 1) := by decide +kernel
theorem dPC_shape_5 : decode cPC_shape 5 = .ok (.iload_n 2, 1) := by decide +kernel
theorem dPC_shape_6 : decode cPC_shape 6 = .ok (.iastore, 1) := by decide +kernel
theorem dPC_shape_7 : decode cPC_shape 7 = .ok (.aload_n 0, 1) := by decide +kernel
theorem dPC_shape_8 : decode cPC_shape 8 = .ok (.getfield 25, 3) := by decide +kernel
theorem dPC_shape_11 : decode cPC_shape 11 = .ok (.iload_n 1, 1) := by decide +kernel
theorem dPC_shape_12 : decode cPC_shape 12 = .ok (.iload_n 3, 1) := by decide +kernel
theorem dPC_shape_13 : decode cPC_shape 13 = .ok (.iastore, 1) := by decide +kernel
theorem dPC_shape_14 : decode cPC_shape 14 = .ok (.aload_n 0, 1) := by decide +kernel
theorem dPC_shape_15 : decode cPC_shape 15 = .ok (.getfield 28, 3) := by decide +kernel
theorem dPC_shape_18 : decode cPC_shape 18 = .ok (.iload_n 1, 1) := by decide +kernel
theorem dPC_shape_19 : decode cPC_shape 19 = .ok (.iload 4, 2) := by decide +kernel
theorem dPC_shape_21 : decode cPC_shape 21 = .ok (.iastore, 1) := by decide +kernel
theorem dPC_shape_22 : decode cPC_shape 22 = .ok (.aload_n 0, 1) := by decide +kernel
theorem dPC_shape_23 : decode cPC_shape 23 = .ok (.invokevirtual 58, 3) := by decide +kernel
theorem dPC_shape_26 : decode cPC_shape 26 = .ok (.return_, 1) := by decide +kernel
abbrev cPC_numberBlocks : ByteArray := prog_6_method_12_code
abbrev yPC_numberBlocks : MethodName := ⟨"PacketRows$Picture", "numberBlocks", "()V"⟩
abbrev wsPC_numberBlocks : List Cond := .code yPC_numberBlocks cPC_numberBlocks 2 (none) :: uU
theorem dPC_numberBlocks_0 : decode cPC_numberBlocks 0 = .ok (.iconst 0, 1) := by decide +kernel
theorem dPC_numberBlocks_1 : decode cPC_numberBlocks 1 = .ok (.istore_n 1, 1) := by decide +kernel
theorem dPC_numberBlocks_2 : decode cPC_numberBlocks 2 = .ok (.iload_n 1, 1) := by decide +kernel
theorem dPC_numberBlocks_3 : decode cPC_numberBlocks 3 = .ok (.aload_n 0, 1) := by decide +kernel
theorem dPC_numberBlocks_4 : decode cPC_numberBlocks 4 = .ok (.invokevirtual 50, 3) := by decide +kernel
theorem dPC_numberBlocks_7 : decode cPC_numberBlocks 7 = .ok (.if_icmp .ge 29, 3) := by decide +kernel
theorem dPC_numberBlocks_10 : decode cPC_numberBlocks 10 = .ok (.aload_n 0, 1) := by decide +kernel
theorem dPC_numberBlocks_11 : decode cPC_numberBlocks 11 = .ok (.getfield 31, 3) := by decide +kernel
theorem dPC_numberBlocks_14 : decode cPC_numberBlocks 14 = .ok (.iload_n 1, 1) := by decide +kernel
theorem dPC_numberBlocks_15 : decode cPC_numberBlocks 15 = .ok (.iconst 1, 1) := by decide +kernel
theorem dPC_numberBlocks_16 : decode cPC_numberBlocks 16 = .ok (.iadd, 1) := by decide +kernel
theorem dPC_numberBlocks_17 : decode cPC_numberBlocks 17 = .ok (.aload_n 0, 1) := by decide +kernel
theorem dPC_numberBlocks_18 : decode cPC_numberBlocks 18 = .ok (.getfield 31, 3) := by decide +kernel
theorem dPC_numberBlocks_21 : decode cPC_numberBlocks 21 = .ok (.iload_n 1, 1) := by decide +kernel
theorem dPC_numberBlocks_22 : decode cPC_numberBlocks 22 = .ok (.iaload, 1) := by decide +kernel
theorem dPC_numberBlocks_23 : decode cPC_numberBlocks 23 = .ok (.aload_n 0, 1) := by decide +kernel
theorem dPC_numberBlocks_24 : decode cPC_numberBlocks 24 = .ok (.iload_n 1, 1) := by decide +kernel
theorem dPC_numberBlocks_25 : decode cPC_numberBlocks 25 = .ok (.invokevirtual 61, 3) := by decide +kernel
theorem dPC_numberBlocks_28 : decode cPC_numberBlocks 28 = .ok (.iadd, 1) := by decide +kernel
theorem dPC_numberBlocks_29 : decode cPC_numberBlocks 29 = .ok (.iastore, 1) := by decide +kernel
theorem dPC_numberBlocks_30 : decode cPC_numberBlocks 30 = .ok (.iinc 1 1, 3) := by decide +kernel
theorem dPC_numberBlocks_33 : decode cPC_numberBlocks 33 = .ok (.goto (-31), 3) := by decide +kernel
theorem dPC_numberBlocks_36 : decode cPC_numberBlocks 36 = .ok (.return_, 1) := by decide +kernel
abbrev cRD_init : ByteArray := prog_7_method_1_code
abbrev yRD_init : MethodName := ⟨"PacketRows$Reader", "<init>", "(LPacketRows$ByteRow;)V"⟩
abbrev wsRD_init : List Cond := .code yRD_init cRD_init 2 (none) :: uU
theorem dRD_init_0 : decode cRD_init 0 = .ok (.aload_n 0, 1) := by decide +kernel
theorem dRD_init_1 : decode cRD_init 1 = .ok (.invokespecial 3, 3) := by decide +kernel
theorem dRD_init_4 : decode cRD_init 4 = .ok (.aload_n 0, 1) := by decide +kernel
theorem dRD_init_5 : decode cRD_init 5 = .ok (.aload_n 1, 1) := by decide +kernel
theorem dRD_init_6 : decode cRD_init 6 = .ok (.putfield 9, 3) := by decide +kernel
theorem dRD_init_9 : decode cRD_init 9 = .ok (.return_, 1) := by decide +kernel
abbrev cRD_start : ByteArray := prog_7_method_2_code
abbrev yRD_start : MethodName := ⟨"PacketRows$Reader", "start", "()V"⟩
abbrev wsRD_start : List Cond := .code yRD_start cRD_start 1 (none) :: uU
theorem dRD_start_0 : decode cRD_start 0 = .ok (.aload_n 0, 1) := by decide +kernel
theorem dRD_start_1 : decode cRD_start 1 = .ok (.iconst 0, 1) := by decide +kernel
theorem dRD_start_2 : decode cRD_start 2 = .ok (.putfield 15, 3) := by decide +kernel
theorem dRD_start_5 : decode cRD_start 5 = .ok (.aload_n 0, 1) := by decide +kernel
theorem dRD_start_6 : decode cRD_start 6 = .ok (.iconst 0, 1) := by decide +kernel
theorem dRD_start_7 : decode cRD_start 7 = .ok (.putfield 19, 3) := by decide +kernel
theorem dRD_start_10 : decode cRD_start 10 = .ok (.return_, 1) := by decide +kernel
abbrev cRD_beginHead : ByteArray := prog_7_method_3_code
abbrev yRD_beginHead : MethodName := ⟨"PacketRows$Reader", "beginHead", "(I)V"⟩
abbrev wsRD_beginHead : List Cond := .code yRD_beginHead cRD_beginHead 2 (none) :: uU
theorem dRD_beginHead_0 : decode cRD_beginHead 0 = .ok (.aload_n 0, 1) := by decide +kernel
theorem dRD_beginHead_1 : decode cRD_beginHead 1 = .ok (.iconst 0, 1) := by decide +kernel
theorem dRD_beginHead_2 : decode cRD_beginHead 2 = .ok (.putfield 22, 3) := by decide +kernel
theorem dRD_beginHead_5 : decode cRD_beginHead 5 = .ok (.aload_n 0, 1) := by decide +kernel
theorem dRD_beginHead_6 : decode cRD_beginHead 6 = .ok (.iconst 0, 1) := by decide +kernel
theorem dRD_beginHead_7 : decode cRD_beginHead 7 = .ok (.putfield 25, 3) := by decide +kernel
theorem dRD_beginHead_10 : decode cRD_beginHead 10 = .ok (.return_, 1) := by decide +kernel
abbrev cRD_bit : ByteArray := prog_7_method_4_code
abbrev yRD_bit : MethodName := ⟨"PacketRows$Reader", "bit", "(Z)Z"⟩
abbrev wsRD_bit : List Cond := .code yRD_bit cRD_bit 3 (some .boolean) :: uU
theorem dRD_bit_0 : decode cRD_bit 0 = .ok (.aload_n 0, 1) := by decide +kernel
theorem dRD_bit_1 : decode cRD_bit 1 = .ok (.getfield 15, 3) := by decide +kernel
theorem dRD_bit_4 : decode cRD_bit 4 = .ok (.ifCond .ne 118, 3) := by decide +kernel
theorem dRD_bit_7 : decode cRD_bit 7 = .ok (.aload_n 0, 1) := by decide +kernel
theorem dRD_bit_8 : decode cRD_bit 8 = .ok (.getfield 25, 3) := by decide +kernel
theorem dRD_bit_11 : decode cRD_bit 11 = .ok (.ifCond .ne 111, 3) := by decide +kernel
theorem dRD_bit_14 : decode cRD_bit 14 = .ok (.aload_n 0, 1) := by decide +kernel
theorem dRD_bit_15 : decode cRD_bit 15 = .ok (.getfield 22, 3) := by decide +kernel
theorem dRD_bit_18 : decode cRD_bit 18 = .ok (.sipush 255, 3) := by decide +kernel
theorem dRD_bit_21 : decode cRD_bit 21 = .ok (.if_icmp .ne 7, 3) := by decide +kernel
theorem dRD_bit_24 : decode cRD_bit 24 = .ok (.iconst 1, 1) := by decide +kernel
theorem dRD_bit_25 : decode cRD_bit 25 = .ok (.goto 4, 3) := by decide +kernel
theorem dRD_bit_28 : decode cRD_bit 28 = .ok (.iconst 0, 1) := by decide +kernel
theorem dRD_bit_29 : decode cRD_bit 29 = .ok (.istore_n 2, 1) := by decide +kernel
theorem dRD_bit_30 : decode cRD_bit 30 = .ok (.aload_n 0, 1) := by decide +kernel
theorem dRD_bit_31 : decode cRD_bit 31 = .ok (.getfield 19, 3) := by decide +kernel
theorem dRD_bit_34 : decode cRD_bit 34 = .ok (.aload_n 0, 1) := by decide +kernel
theorem dRD_bit_35 : decode cRD_bit 35 = .ok (.getfield 9, 3) := by decide +kernel
theorem dRD_bit_38 : decode cRD_bit 38 = .ok (.getfield 28, 3) := by decide +kernel
theorem dRD_bit_41 : decode cRD_bit 41 = .ok (.if_icmp .lt 11, 3) := by decide +kernel
theorem dRD_bit_44 : decode cRD_bit 44 = .ok (.aload_n 0, 1) := by decide +kernel
theorem dRD_bit_45 : decode cRD_bit 45 = .ok (.iconst 1, 1) := by decide +kernel
theorem dRD_bit_46 : decode cRD_bit 46 = .ok (.putfield 15, 3) := by decide +kernel
theorem dRD_bit_49 : decode cRD_bit 49 = .ok (.goto 73, 3) := by decide +kernel
theorem dRD_bit_52 : decode cRD_bit 52 = .ok (.iload_n 2, 1) := by decide +kernel
theorem dRD_bit_53 : decode cRD_bit 53 = .ok (.ifCond .eq 28, 3) := by decide +kernel
theorem dRD_bit_56 : decode cRD_bit 56 = .ok (.aload_n 0, 1) := by decide +kernel
theorem dRD_bit_57 : decode cRD_bit 57 = .ok (.getfield 9, 3) := by decide +kernel
theorem dRD_bit_60 : decode cRD_bit 60 = .ok (.getfield 33, 3) := by decide +kernel
theorem dRD_bit_63 : decode cRD_bit 63 = .ok (.aload_n 0, 1) := by decide +kernel
theorem dRD_bit_64 : decode cRD_bit 64 = .ok (.getfield 19, 3) := by decide +kernel
theorem dRD_bit_67 : decode cRD_bit 67 = .ok (.iaload, 1) := by decide +kernel
theorem dRD_bit_68 : decode cRD_bit 68 = .ok (.bipush 127, 2) := by decide +kernel
theorem dRD_bit_70 : decode cRD_bit 70 = .ok (.if_icmp .le 11, 3) := by decide +kernel
theorem dRD_bit_73 : decode cRD_bit 73 = .ok (.aload_n 0, 1) := by decide +kernel
theorem dRD_bit_74 : decode cRD_bit 74 = .ok (.iconst 2, 1) := by decide +kernel
theorem dRD_bit_75 : decode cRD_bit 75 = .ok (.putfield 15, 3) := by decide +kernel
theorem dRD_bit_78 : decode cRD_bit 78 = .ok (.goto 44, 3) := by decide +kernel
theorem dRD_bit_81 : decode cRD_bit 81 = .ok (.aload_n 0, 1) := by decide +kernel
theorem dRD_bit_82 : decode cRD_bit 82 = .ok (.aload_n 0, 1) := by decide +kernel
theorem dRD_bit_83 : decode cRD_bit 83 = .ok (.getfield 9, 3) := by decide +kernel
theorem dRD_bit_86 : decode cRD_bit 86 = .ok (.getfield 33, 3) := by decide +kernel
theorem dRD_bit_89 : decode cRD_bit 89 = .ok (.aload_n 0, 1) := by decide +kernel
theorem dRD_bit_90 : decode cRD_bit 90 = .ok (.getfield 19, 3) := by decide +kernel
theorem dRD_bit_93 : decode cRD_bit 93 = .ok (.iaload, 1) := by decide +kernel
theorem dRD_bit_94 : decode cRD_bit 94 = .ok (.putfield 22, 3) := by decide +kernel
theorem dRD_bit_97 : decode cRD_bit 97 = .ok (.aload_n 0, 1) := by decide +kernel
theorem dRD_bit_98 : decode cRD_bit 98 = .ok (.iload_n 2, 1) := by decide +kernel
theorem dRD_bit_99 : decode cRD_bit 99 = .ok (.ifCond .eq 8, 3) := by decide +kernel
theorem dRD_bit_102 : decode cRD_bit 102 = .ok (.bipush 7, 2) := by decide +kernel
theorem dRD_bit_104 : decode cRD_bit 104 = .ok (.goto 5, 3) := by decide +kernel
theorem dRD_bit_107 : decode cRD_bit 107 = .ok (.bipush 8, 2) := by decide +kernel
theorem dRD_bit_109 : decode cRD_bit 109 = .ok (.putfield 25, 3) := by decide +kernel
theorem dRD_bit_112 : decode cRD_bit 112 = .ok (.aload_n 0, 1) := by decide +kernel
theorem dRD_bit_113 : decode cRD_bit 113 = .ok (.dup, 1) := by decide +kernel
theorem dRD_bit_114 : decode cRD_bit 114 = .ok (.getfield 19, 3) := by decide +kernel
theorem dRD_bit_117 : decode cRD_bit 117 = .ok (.iconst 1, 1) := by decide +kernel
theorem dRD_bit_118 : decode cRD_bit 118 = .ok (.iadd, 1) := by decide +kernel
theorem dRD_bit_119 : decode cRD_bit 119 = .ok (.putfield 19, 3) := by decide +kernel
theorem dRD_bit_122 : decode cRD_bit 122 = .ok (.aload_n 0, 1) := by decide +kernel
theorem dRD_bit_123 : decode cRD_bit 123 = .ok (.getfield 15, 3) := by decide +kernel
theorem dRD_bit_126 : decode cRD_bit 126 = .ok (.ifCond .eq 5, 3) := by decide +kernel
theorem dRD_bit_129 : decode cRD_bit 129 = .ok (.iconst 0, 1) := by decide +kernel
theorem dRD_bit_130 : decode cRD_bit 130 = .ok (.ireturn, 1) := by decide +kernel
theorem dRD_bit_131 : decode cRD_bit 131 = .ok (.aload_n 0, 1) := by decide +kernel
theorem dRD_bit_132 : decode cRD_bit 132 = .ok (.dup, 1) := by decide +kernel
theorem dRD_bit_133 : decode cRD_bit 133 = .ok (.getfield 25, 3) := by decide +kernel
theorem dRD_bit_136 : decode cRD_bit 136 = .ok (.iconst 1, 1) := by decide +kernel
theorem dRD_bit_137 : decode cRD_bit 137 = .ok (.isub, 1) := by decide +kernel
theorem dRD_bit_138 : decode cRD_bit 138 = .ok (.putfield 25, 3) := by decide +kernel
theorem dRD_bit_141 : decode cRD_bit 141 = .ok (.aload_n 0, 1) := by decide +kernel
theorem dRD_bit_142 : decode cRD_bit 142 = .ok (.getfield 22, 3) := by decide +kernel
theorem dRD_bit_145 : decode cRD_bit 145 = .ok (.aload_n 0, 1) := by decide +kernel
theorem dRD_bit_146 : decode cRD_bit 146 = .ok (.getfield 25, 3) := by decide +kernel
theorem dRD_bit_149 : decode cRD_bit 149 = .ok (.ishr, 1) := by decide +kernel
theorem dRD_bit_150 : decode cRD_bit 150 = .ok (.iconst 1, 1) := by decide +kernel
theorem dRD_bit_151 : decode cRD_bit 151 = .ok (.iand, 1) := by decide +kernel
theorem dRD_bit_152 : decode cRD_bit 152 = .ok (.iconst 1, 1) := by decide +kernel
theorem dRD_bit_153 : decode cRD_bit 153 = .ok (.if_icmp .ne 7, 3) := by decide +kernel
theorem dRD_bit_156 : decode cRD_bit 156 = .ok (.iconst 1, 1) := by decide +kernel
theorem dRD_bit_157 : decode cRD_bit 157 = .ok (.goto 4, 3) := by decide +kernel
theorem dRD_bit_160 : decode cRD_bit 160 = .ok (.iconst 0, 1) := by decide +kernel
theorem dRD_bit_161 : decode cRD_bit 161 = .ok (.ireturn, 1) := by decide +kernel
abbrev cRD_endHead : ByteArray := prog_7_method_5_code
abbrev yRD_endHead : MethodName := ⟨"PacketRows$Reader", "endHead", "()V"⟩
abbrev wsRD_endHead : List Cond := .code yRD_endHead cRD_endHead 1 (none) :: uU
theorem dRD_endHead_0 : decode cRD_endHead 0 = .ok (.aload_n 0, 1) := by decide +kernel
theorem dRD_endHead_1 : decode cRD_endHead 1 = .ok (.getfield 22, 3) := by decide +kernel
theorem dRD_endHead_4 : decode cRD_endHead 4 = .ok (.sipush 255, 3) := by decide +kernel
theorem dRD_endHead_7 : decode cRD_endHead 7 = .ok (.if_icmp .ne 14, 3) := by decide +kernel
theorem dRD_endHead_10 : decode cRD_endHead 10 = .ok (.aload_n 0, 1) := by decide +kernel
theorem dRD_endHead_11 : decode cRD_endHead 11 = .ok (.iconst 0, 1) := by decide +kernel
theorem dRD_endHead_12 : decode cRD_endHead 12 = .ok (.putfield 25, 3) := by decide +kernel
theorem dRD_endHead_15 : decode cRD_endHead 15 = .ok (.aload_n 0, 1) := by decide +kernel
theorem dRD_endHead_16 : decode cRD_endHead 16 = .ok (.iconst 0, 1) := by decide +kernel
theorem dRD_endHead_17 : decode cRD_endHead 17 = .ok (.invokevirtual 37, 3) := by decide +kernel
theorem dRD_endHead_20 : decode cRD_endHead 20 = .ok (.pop, 1) := by decide +kernel
theorem dRD_endHead_21 : decode cRD_endHead 21 = .ok (.return_, 1) := by decide +kernel
abbrev cRW_init : ByteArray := prog_8_method_1_code
abbrev yRW_init : MethodName := ⟨"PacketRows$Rows", "<init>", "(II)V"⟩
abbrev wsRW_init : List Cond := .code yRW_init cRW_init 3 (none) :: uU
theorem dRW_init_0 : decode cRW_init 0 = .ok (.aload_n 0, 1) := by decide +kernel
theorem dRW_init_1 : decode cRW_init 1 = .ok (.invokespecial 1, 3) := by decide +kernel
theorem dRW_init_4 : decode cRW_init 4 = .ok (.aload_n 0, 1) := by decide +kernel
theorem dRW_init_5 : decode cRW_init 5 = .ok (.iload_n 2, 1) := by decide +kernel
theorem dRW_init_6 : decode cRW_init 6 = .ok (.putfield 7, 3) := by decide +kernel
theorem dRW_init_9 : decode cRW_init 9 = .ok (.aload_n 0, 1) := by decide +kernel
theorem dRW_init_10 : decode cRW_init 10 = .ok (.iload_n 1, 1) := by decide +kernel
theorem dRW_init_11 : decode cRW_init 11 = .ok (.iload_n 2, 1) := by decide +kernel
theorem dRW_init_12 : decode cRW_init 12 = .ok (.imul, 1) := by decide +kernel
theorem dRW_init_13 : decode cRW_init 13 = .ok (.newarray .int, 2) := by decide +kernel
theorem dRW_init_15 : decode cRW_init 15 = .ok (.putfield 13, 3) := by decide +kernel
theorem dRW_init_18 : decode cRW_init 18 = .ok (.aload_n 0, 1) := by decide +kernel
theorem dRW_init_19 : decode cRW_init 19 = .ok (.iload_n 1, 1) := by decide +kernel
theorem dRW_init_20 : decode cRW_init 20 = .ok (.iload_n 2, 1) := by decide +kernel
theorem dRW_init_21 : decode cRW_init 21 = .ok (.imul, 1) := by decide +kernel
theorem dRW_init_22 : decode cRW_init 22 = .ok (.newarray .int, 2) := by decide +kernel
theorem dRW_init_24 : decode cRW_init 24 = .ok (.putfield 17, 3) := by decide +kernel
theorem dRW_init_27 : decode cRW_init 27 = .ok (.aload_n 0, 1) := by decide +kernel
theorem dRW_init_28 : decode cRW_init 28 = .ok (.iload_n 1, 1) := by decide +kernel
theorem dRW_init_29 : decode cRW_init 29 = .ok (.newarray .int, 2) := by decide +kernel
theorem dRW_init_31 : decode cRW_init 31 = .ok (.putfield 20, 3) := by decide +kernel
theorem dRW_init_34 : decode cRW_init 34 = .ok (.return_, 1) := by decide +kernel
abbrev cRW_passesOf : ByteArray := prog_8_method_2_code
abbrev yRW_passesOf : MethodName := ⟨"PacketRows$Rows", "passesOf", "(II)I"⟩
abbrev wsRW_passesOf : List Cond := .code yRW_passesOf cRW_passesOf 3 (some .int) :: uU
theorem dRW_passesOf_0 : decode cRW_passesOf 0 = .ok (.aload_n 0, 1) := by decide +kernel
theorem dRW_passesOf_1 : decode cRW_passesOf 1 = .ok (.getfield 13, 3) := by decide +kernel
theorem dRW_passesOf_4 : decode cRW_passesOf 4 = .ok (.iload_n 1, 1) := by decide +kernel
theorem dRW_passesOf_5 : decode cRW_passesOf 5 = .ok (.aload_n 0, 1) := by decide +kernel
theorem dRW_passesOf_6 : decode cRW_passesOf 6 = .ok (.getfield 7, 3) := by decide +kernel
theorem dRW_passesOf_9 : decode cRW_passesOf 9 = .ok (.imul, 1) := by decide +kernel
theorem dRW_passesOf_10 : decode cRW_passesOf 10 = .ok (.iload_n 2, 1) := by decide +kernel
theorem dRW_passesOf_11 : decode cRW_passesOf 11 = .ok (.iadd, 1) := by decide +kernel
theorem dRW_passesOf_12 : decode cRW_passesOf 12 = .ok (.iaload, 1) := by decide +kernel
theorem dRW_passesOf_13 : decode cRW_passesOf 13 = .ok (.ireturn, 1) := by decide +kernel
abbrev cRW_lengthOf : ByteArray := prog_8_method_3_code
abbrev yRW_lengthOf : MethodName := ⟨"PacketRows$Rows", "lengthOf", "(II)I"⟩
abbrev wsRW_lengthOf : List Cond := .code yRW_lengthOf cRW_lengthOf 3 (some .int) :: uU
theorem dRW_lengthOf_0 : decode cRW_lengthOf 0 = .ok (.aload_n 0, 1) := by decide +kernel
theorem dRW_lengthOf_1 : decode cRW_lengthOf 1 = .ok (.getfield 17, 3) := by decide +kernel
theorem dRW_lengthOf_4 : decode cRW_lengthOf 4 = .ok (.iload_n 1, 1) := by decide +kernel
theorem dRW_lengthOf_5 : decode cRW_lengthOf 5 = .ok (.aload_n 0, 1) := by decide +kernel
theorem dRW_lengthOf_6 : decode cRW_lengthOf 6 = .ok (.getfield 7, 3) := by decide +kernel
theorem dRW_lengthOf_9 : decode cRW_lengthOf 9 = .ok (.imul, 1) := by decide +kernel
theorem dRW_lengthOf_10 : decode cRW_lengthOf 10 = .ok (.iload_n 2, 1) := by decide +kernel
theorem dRW_lengthOf_11 : decode cRW_lengthOf 11 = .ok (.iadd, 1) := by decide +kernel
theorem dRW_lengthOf_12 : decode cRW_lengthOf 12 = .ok (.iaload, 1) := by decide +kernel
theorem dRW_lengthOf_13 : decode cRW_lengthOf 13 = .ok (.ireturn, 1) := by decide +kernel
abbrev cRW_firstOf : ByteArray := prog_8_method_4_code
abbrev yRW_firstOf : MethodName := ⟨"PacketRows$Rows", "firstOf", "(I)I"⟩
abbrev wsRW_firstOf : List Cond := .code yRW_firstOf cRW_firstOf 3 (some .int) :: uU
theorem dRW_firstOf_0 : decode cRW_firstOf 0 = .ok (.iconst 0, 1) := by decide +kernel
theorem dRW_firstOf_1 : decode cRW_firstOf 1 = .ok (.istore_n 2, 1) := by decide +kernel
theorem dRW_firstOf_2 : decode cRW_firstOf 2 = .ok (.iload_n 2, 1) := by decide +kernel
theorem dRW_firstOf_3 : decode cRW_firstOf 3 = .ok (.aload_n 0, 1) := by decide +kernel
theorem dRW_firstOf_4 : decode cRW_firstOf 4 = .ok (.getfield 7, 3) := by decide +kernel
theorem dRW_firstOf_7 : decode cRW_firstOf 7 = .ok (.if_icmp .ge 20, 3) := by decide +kernel
theorem dRW_firstOf_10 : decode cRW_firstOf 10 = .ok (.aload_n 0, 1) := by decide +kernel
theorem dRW_firstOf_11 : decode cRW_firstOf 11 = .ok (.iload_n 1, 1) := by decide +kernel
theorem dRW_firstOf_12 : decode cRW_firstOf 12 = .ok (.iload_n 2, 1) := by decide +kernel
theorem dRW_firstOf_13 : decode cRW_firstOf 13 = .ok (.invokevirtual 23, 3) := by decide +kernel
theorem dRW_firstOf_16 : decode cRW_firstOf 16 = .ok (.ifCond .le 5, 3) := by decide +kernel
theorem dRW_firstOf_19 : decode cRW_firstOf 19 = .ok (.iload_n 2, 1) := by decide +kernel
theorem dRW_firstOf_20 : decode cRW_firstOf 20 = .ok (.ireturn, 1) := by decide +kernel
theorem dRW_firstOf_21 : decode cRW_firstOf 21 = .ok (.iinc 2 1, 3) := by decide +kernel
theorem dRW_firstOf_24 : decode cRW_firstOf 24 = .ok (.goto (-22), 3) := by decide +kernel
theorem dRW_firstOf_27 : decode cRW_firstOf 27 = .ok (.aload_n 0, 1) := by decide +kernel
theorem dRW_firstOf_28 : decode cRW_firstOf 28 = .ok (.getfield 7, 3) := by decide +kernel
theorem dRW_firstOf_31 : decode cRW_firstOf 31 = .ok (.ireturn, 1) := by decide +kernel
abbrev cRW_anyComes : ByteArray := prog_8_method_5_code
abbrev yRW_anyComes : MethodName := ⟨"PacketRows$Rows", "anyComes", "(III)Z"⟩
abbrev wsRW_anyComes : List Cond := .code yRW_anyComes cRW_anyComes 5 (some .boolean) :: uU
theorem dRW_anyComes_0 : decode cRW_anyComes 0 = .ok (.iload_n 2, 1) := by decide +kernel
theorem dRW_anyComes_1 : decode cRW_anyComes 1 = .ok (.istore 4, 2) := by decide +kernel
theorem dRW_anyComes_3 : decode cRW_anyComes 3 = .ok (.iload 4, 2) := by decide +kernel
theorem dRW_anyComes_5 : decode cRW_anyComes 5 = .ok (.iload_n 3, 1) := by decide +kernel
theorem dRW_anyComes_6 : decode cRW_anyComes 6 = .ok (.if_icmp .ge 21, 3) := by decide +kernel
theorem dRW_anyComes_9 : decode cRW_anyComes 9 = .ok (.aload_n 0, 1) := by decide +kernel
theorem dRW_anyComes_10 : decode cRW_anyComes 10 = .ok (.iload 4, 2) := by decide +kernel
theorem dRW_anyComes_12 : decode cRW_anyComes 12 = .ok (.iload_n 1, 1) := by decide +kernel
theorem dRW_anyComes_13 : decode cRW_anyComes 13 = .ok (.invokevirtual 23, 3) := by decide +kernel
theorem dRW_anyComes_16 : decode cRW_anyComes 16 = .ok (.ifCond .le 5, 3) := by decide +kernel
theorem dRW_anyComes_19 : decode cRW_anyComes 19 = .ok (.iconst 1, 1) := by decide +kernel
theorem dRW_anyComes_20 : decode cRW_anyComes 20 = .ok (.ireturn, 1) := by decide +kernel
theorem dRW_anyComes_21 : decode cRW_anyComes 21 = .ok (.iinc 4 1, 3) := by decide +kernel
theorem dRW_anyComes_24 : decode cRW_anyComes 24 = .ok (.goto (-21), 3) := by decide +kernel
theorem dRW_anyComes_27 : decode cRW_anyComes 27 = .ok (.iconst 0, 1) := by decide +kernel
theorem dRW_anyComes_28 : decode cRW_anyComes 28 = .ok (.ireturn, 1) := by decide +kernel
abbrev cRW_put : ByteArray := prog_8_method_6_code
abbrev yRW_put : MethodName := ⟨"PacketRows$Rows", "put", "(IIII)V"⟩
abbrev wsRW_put : List Cond := .code yRW_put cRW_put 5 (none) :: uU
theorem dRW_put_0 : decode cRW_put 0 = .ok (.aload_n 0, 1) := by decide +kernel
theorem dRW_put_1 : decode cRW_put 1 = .ok (.getfield 13, 3) := by decide +kernel
theorem dRW_put_4 : decode cRW_put 4 = .ok (.iload_n 1, 1) := by decide +kernel
theorem dRW_put_5 : decode cRW_put 5 = .ok (.aload_n 0, 1) := by decide +kernel
theorem dRW_put_6 : decode cRW_put 6 = .ok (.getfield 7, 3) := by decide +kernel
theorem dRW_put_9 : decode cRW_put 9 = .ok (.imul, 1) := by decide +kernel
theorem dRW_put_10 : decode cRW_put 10 = .ok (.iload_n 2, 1) := by decide +kernel
theorem dRW_put_11 : decode cRW_put 11 = .ok (.iadd, 1) := by decide +kernel
theorem dRW_put_12 : decode cRW_put 12 = .ok (.iload_n 3, 1) := by decide +kernel
theorem dRW_put_13 : decode cRW_put 13 = .ok (.iastore, 1) := by decide +kernel
theorem dRW_put_14 : decode cRW_put 14 = .ok (.aload_n 0, 1) := by decide +kernel
theorem dRW_put_15 : decode cRW_put 15 = .ok (.getfield 17, 3) := by decide +kernel
theorem dRW_put_18 : decode cRW_put 18 = .ok (.iload_n 1, 1) := by decide +kernel
theorem dRW_put_19 : decode cRW_put 19 = .ok (.aload_n 0, 1) := by decide +kernel
theorem dRW_put_20 : decode cRW_put 20 = .ok (.getfield 7, 3) := by decide +kernel
theorem dRW_put_23 : decode cRW_put 23 = .ok (.imul, 1) := by decide +kernel
theorem dRW_put_24 : decode cRW_put 24 = .ok (.iload_n 2, 1) := by decide +kernel
theorem dRW_put_25 : decode cRW_put 25 = .ok (.iadd, 1) := by decide +kernel
theorem dRW_put_26 : decode cRW_put 26 = .ok (.iload 4, 2) := by decide +kernel
theorem dRW_put_28 : decode cRW_put 28 = .ok (.iastore, 1) := by decide +kernel
theorem dRW_put_29 : decode cRW_put 29 = .ok (.return_, 1) := by decide +kernel
abbrev cRW_clear : ByteArray := prog_8_method_7_code
abbrev yRW_clear : MethodName := ⟨"PacketRows$Rows", "clear", "()V"⟩
abbrev wsRW_clear : List Cond := .code yRW_clear cRW_clear 1 (none) :: uU
theorem dRW_clear_0 : decode cRW_clear 0 = .ok (.aload_n 0, 1) := by decide +kernel
theorem dRW_clear_1 : decode cRW_clear 1 = .ok (.getfield 13, 3) := by decide +kernel
theorem dRW_clear_4 : decode cRW_clear 4 = .ok (.iconst 0, 1) := by decide +kernel
theorem dRW_clear_5 : decode cRW_clear 5 = .ok (.invokestatic 27, 3) := by decide +kernel
theorem dRW_clear_8 : decode cRW_clear 8 = .ok (.aload_n 0, 1) := by decide +kernel
theorem dRW_clear_9 : decode cRW_clear 9 = .ok (.getfield 17, 3) := by decide +kernel
theorem dRW_clear_12 : decode cRW_clear 12 = .ok (.iconst 0, 1) := by decide +kernel
theorem dRW_clear_13 : decode cRW_clear 13 = .ok (.invokestatic 27, 3) := by decide +kernel
theorem dRW_clear_16 : decode cRW_clear 16 = .ok (.aload_n 0, 1) := by decide +kernel
theorem dRW_clear_17 : decode cRW_clear 17 = .ok (.getfield 20, 3) := by decide +kernel
theorem dRW_clear_20 : decode cRW_clear 20 = .ok (.iconst 0, 1) := by decide +kernel
theorem dRW_clear_21 : decode cRW_clear 21 = .ok (.invokestatic 27, 3) := by decide +kernel
theorem dRW_clear_24 : decode cRW_clear 24 = .ok (.return_, 1) := by decide +kernel
abbrev cRW_makeRoom : ByteArray := prog_8_method_8_code
abbrev yRW_makeRoom : MethodName := ⟨"PacketRows$Rows", "makeRoom", "(IIII)V"⟩
abbrev wsRW_makeRoom : List Cond := .code yRW_makeRoom cRW_makeRoom 6 (none) :: uU
theorem dRW_makeRoom_0 : decode cRW_makeRoom 0 = .ok (.iload 4, 2) := by decide +kernel
theorem dRW_makeRoom_2 : decode cRW_makeRoom 2 = .ok (.iload_n 1, 1) := by decide +kernel
theorem dRW_makeRoom_3 : decode cRW_makeRoom 3 = .ok (.isub, 1) := by decide +kernel
theorem dRW_makeRoom_4 : decode cRW_makeRoom 4 = .ok (.iload_n 2, 1) := by decide +kernel
theorem dRW_makeRoom_5 : decode cRW_makeRoom 5 = .ok (.isub, 1) := by decide +kernel
theorem dRW_makeRoom_6 : decode cRW_makeRoom 6 = .ok (.istore 5, 2) := by decide +kernel
theorem dRW_makeRoom_8 : decode cRW_makeRoom 8 = .ok (.aload_n 0, 1) := by decide +kernel
theorem dRW_makeRoom_9 : decode cRW_makeRoom 9 = .ok (.getfield 13, 3) := by decide +kernel
theorem dRW_makeRoom_12 : decode cRW_makeRoom 12 = .ok (.iload_n 1, 1) := by decide +kernel
theorem dRW_makeRoom_13 : decode cRW_makeRoom 13 = .ok (.aload_n 0, 1) := by decide +kernel
theorem dRW_makeRoom_14 : decode cRW_makeRoom 14 = .ok (.getfield 7, 3) := by decide +kernel
theorem dRW_makeRoom_17 : decode cRW_makeRoom 17 = .ok (.imul, 1) := by decide +kernel
theorem dRW_makeRoom_18 : decode cRW_makeRoom 18 = .ok (.iload_n 2, 1) := by decide +kernel
theorem dRW_makeRoom_19 : decode cRW_makeRoom 19 = .ok (.aload_n 0, 1) := by decide +kernel
theorem dRW_makeRoom_20 : decode cRW_makeRoom 20 = .ok (.getfield 7, 3) := by decide +kernel
theorem dRW_makeRoom_23 : decode cRW_makeRoom 23 = .ok (.imul, 1) := by decide +kernel
theorem dRW_makeRoom_24 : decode cRW_makeRoom 24 = .ok (.iload_n 3, 1) := by decide +kernel
theorem dRW_makeRoom_25 : decode cRW_makeRoom 25 = .ok (.aload_n 0, 1) := by decide +kernel
theorem dRW_makeRoom_26 : decode cRW_makeRoom 26 = .ok (.getfield 7, 3) := by decide +kernel
theorem dRW_makeRoom_29 : decode cRW_makeRoom 29 = .ok (.imul, 1) := by decide +kernel
theorem dRW_makeRoom_30 : decode cRW_makeRoom 30 = .ok (.iload 5, 2) := by decide +kernel
theorem dRW_makeRoom_32 : decode cRW_makeRoom 32 = .ok (.aload_n 0, 1) := by decide +kernel
theorem dRW_makeRoom_33 : decode cRW_makeRoom 33 = .ok (.getfield 7, 3) := by decide +kernel
theorem dRW_makeRoom_36 : decode cRW_makeRoom 36 = .ok (.imul, 1) := by decide +kernel
theorem dRW_makeRoom_37 : decode cRW_makeRoom 37 = .ok (.invokestatic 33, 3) := by decide +kernel
theorem dRW_makeRoom_40 : decode cRW_makeRoom 40 = .ok (.aload_n 0, 1) := by decide +kernel
theorem dRW_makeRoom_41 : decode cRW_makeRoom 41 = .ok (.getfield 17, 3) := by decide +kernel
theorem dRW_makeRoom_44 : decode cRW_makeRoom 44 = .ok (.iload_n 1, 1) := by decide +kernel
theorem dRW_makeRoom_45 : decode cRW_makeRoom 45 = .ok (.aload_n 0, 1) := by decide +kernel
theorem dRW_makeRoom_46 : decode cRW_makeRoom 46 = .ok (.getfield 7, 3) := by decide +kernel
theorem dRW_makeRoom_49 : decode cRW_makeRoom 49 = .ok (.imul, 1) := by decide +kernel
theorem dRW_makeRoom_50 : decode cRW_makeRoom 50 = .ok (.iload_n 2, 1) := by decide +kernel
theorem dRW_makeRoom_51 : decode cRW_makeRoom 51 = .ok (.aload_n 0, 1) := by decide +kernel
theorem dRW_makeRoom_52 : decode cRW_makeRoom 52 = .ok (.getfield 7, 3) := by decide +kernel
theorem dRW_makeRoom_55 : decode cRW_makeRoom 55 = .ok (.imul, 1) := by decide +kernel
theorem dRW_makeRoom_56 : decode cRW_makeRoom 56 = .ok (.iload_n 3, 1) := by decide +kernel
theorem dRW_makeRoom_57 : decode cRW_makeRoom 57 = .ok (.aload_n 0, 1) := by decide +kernel
theorem dRW_makeRoom_58 : decode cRW_makeRoom 58 = .ok (.getfield 7, 3) := by decide +kernel
theorem dRW_makeRoom_61 : decode cRW_makeRoom 61 = .ok (.imul, 1) := by decide +kernel
theorem dRW_makeRoom_62 : decode cRW_makeRoom 62 = .ok (.iload 5, 2) := by decide +kernel
theorem dRW_makeRoom_64 : decode cRW_makeRoom 64 = .ok (.aload_n 0, 1) := by decide +kernel
theorem dRW_makeRoom_65 : decode cRW_makeRoom 65 = .ok (.getfield 7, 3) := by decide +kernel
theorem dRW_makeRoom_68 : decode cRW_makeRoom 68 = .ok (.imul, 1) := by decide +kernel
theorem dRW_makeRoom_69 : decode cRW_makeRoom 69 = .ok (.invokestatic 33, 3) := by decide +kernel
theorem dRW_makeRoom_72 : decode cRW_makeRoom 72 = .ok (.aload_n 0, 1) := by decide +kernel
theorem dRW_makeRoom_73 : decode cRW_makeRoom 73 = .ok (.getfield 20, 3) := by decide +kernel
theorem dRW_makeRoom_76 : decode cRW_makeRoom 76 = .ok (.iload_n 1, 1) := by decide +kernel
theorem dRW_makeRoom_77 : decode cRW_makeRoom 77 = .ok (.iload_n 2, 1) := by decide +kernel
theorem dRW_makeRoom_78 : decode cRW_makeRoom 78 = .ok (.iload_n 3, 1) := by decide +kernel
theorem dRW_makeRoom_79 : decode cRW_makeRoom 79 = .ok (.iload 5, 2) := by decide +kernel
theorem dRW_makeRoom_81 : decode cRW_makeRoom 81 = .ok (.invokestatic 33, 3) := by decide +kernel
theorem dRW_makeRoom_84 : decode cRW_makeRoom 84 = .ok (.return_, 1) := by decide +kernel
abbrev cRW_replace : ByteArray := prog_8_method_9_code
abbrev yRW_replace : MethodName := ⟨"PacketRows$Rows", "replace", "([IIIII)V"⟩
abbrev wsRW_replace : List Cond := .code yRW_replace cRW_replace 5 (none) :: uU
theorem dRW_replace_0 : decode cRW_replace 0 = .ok (.aload_n 0, 1) := by decide +kernel
theorem dRW_replace_1 : decode cRW_replace 1 = .ok (.iload_n 1, 1) := by decide +kernel
theorem dRW_replace_2 : decode cRW_replace 2 = .ok (.iload_n 2, 1) := by decide +kernel
theorem dRW_replace_3 : decode cRW_replace 3 = .ok (.iadd, 1) := by decide +kernel
theorem dRW_replace_4 : decode cRW_replace 4 = .ok (.aload_n 0, 1) := by decide +kernel
theorem dRW_replace_5 : decode cRW_replace 5 = .ok (.iload_n 1, 1) := by decide +kernel
theorem dRW_replace_6 : decode cRW_replace 6 = .ok (.iload_n 3, 1) := by decide +kernel
theorem dRW_replace_7 : decode cRW_replace 7 = .ok (.iadd, 1) := by decide +kernel
theorem dRW_replace_8 : decode cRW_replace 8 = .ok (.iload 4, 2) := by decide +kernel
theorem dRW_replace_10 : decode cRW_replace 10 = .ok (.invokestatic 37, 3) := by decide +kernel
theorem dRW_replace_13 : decode cRW_replace 13 = .ok (.aload_n 0, 1) := by decide +kernel
theorem dRW_replace_14 : decode cRW_replace 14 = .ok (.iload_n 1, 1) := by decide +kernel
theorem dRW_replace_15 : decode cRW_replace 15 = .ok (.iload_n 1, 1) := by decide +kernel
theorem dRW_replace_16 : decode cRW_replace 16 = .ok (.iload_n 3, 1) := by decide +kernel
theorem dRW_replace_17 : decode cRW_replace 17 = .ok (.iadd, 1) := by decide +kernel
theorem dRW_replace_18 : decode cRW_replace 18 = .ok (.iconst 0, 1) := by decide +kernel
theorem dRW_replace_19 : decode cRW_replace 19 = .ok (.invokestatic 43, 3) := by decide +kernel
theorem dRW_replace_22 : decode cRW_replace 22 = .ok (.return_, 1) := by decide +kernel
abbrev cTR_init : ByteArray := prog_9_method_1_code
abbrev yTR_init : MethodName := ⟨"PacketRows$Tree", "<init>", "([I)V"⟩
abbrev wsTR_init : List Cond := .code yTR_init cTR_init 2 (none) :: uU
theorem dTR_init_0 : decode cTR_init 0 = .ok (.aload_n 0, 1) := by decide +kernel
theorem dTR_init_1 : decode cTR_init 1 = .ok (.invokespecial 3, 3) := by decide +kernel
theorem dTR_init_4 : decode cTR_init 4 = .ok (.aload_n 0, 1) := by decide +kernel
theorem dTR_init_5 : decode cTR_init 5 = .ok (.iconst 3, 1) := by decide +kernel
theorem dTR_init_6 : decode cTR_init 6 = .ok (.newarray .int, 2) := by decide +kernel
theorem dTR_init_8 : decode cTR_init 8 = .ok (.putfield 11, 3) := by decide +kernel
theorem dTR_init_11 : decode cTR_init 11 = .ok (.aload_n 0, 1) := by decide +kernel
theorem dTR_init_12 : decode cTR_init 12 = .ok (.aload_n 1, 1) := by decide +kernel
theorem dTR_init_13 : decode cTR_init 13 = .ok (.putfield 15, 3) := by decide +kernel
theorem dTR_init_16 : decode cTR_init 16 = .ok (.aload_n 0, 1) := by decide +kernel
theorem dTR_init_17 : decode cTR_init 17 = .ok (.aload_n 1, 1) := by decide +kernel
theorem dTR_init_18 : decode cTR_init 18 = .ok (.arraylength, 1) := by decide +kernel
theorem dTR_init_19 : decode cTR_init 19 = .ok (.newarray .int, 2) := by decide +kernel
theorem dTR_init_21 : decode cTR_init 21 = .ok (.putfield 18, 3) := by decide +kernel
theorem dTR_init_24 : decode cTR_init 24 = .ok (.aload_n 0, 1) := by decide +kernel
theorem dTR_init_25 : decode cTR_init 25 = .ok (.aload_n 1, 1) := by decide +kernel
theorem dTR_init_26 : decode cTR_init 26 = .ok (.arraylength, 1) := by decide +kernel
theorem dTR_init_27 : decode cTR_init 27 = .ok (.newarray .int, 2) := by decide +kernel
theorem dTR_init_29 : decode cTR_init 29 = .ok (.putfield 21, 3) := by decide +kernel
theorem dTR_init_32 : decode cTR_init 32 = .ok (.aload_n 0, 1) := by decide +kernel
theorem dTR_init_33 : decode cTR_init 33 = .ok (.aload_n 1, 1) := by decide +kernel
theorem dTR_init_34 : decode cTR_init 34 = .ok (.arraylength, 1) := by decide +kernel
theorem dTR_init_35 : decode cTR_init 35 = .ok (.newarray .boolean, 2) := by decide +kernel
theorem dTR_init_37 : decode cTR_init 37 = .ok (.putfield 24, 3) := by decide +kernel
theorem dTR_init_40 : decode cTR_init 40 = .ok (.return_, 1) := by decide +kernel
abbrev cTR_plant : ByteArray := prog_9_method_2_code
abbrev yTR_plant : MethodName := ⟨"PacketRows$Tree", "plant", "([IIII)V"⟩
abbrev wsTR_plant : List Cond := .code yTR_plant cTR_plant 12 (none) :: uU
theorem dTR_plant_0 : decode cTR_plant 0 = .ok (.iload_n 1, 1) := by decide +kernel
theorem dTR_plant_1 : decode cTR_plant 1 = .ok (.istore 4, 2) := by decide +kernel
theorem dTR_plant_3 : decode cTR_plant 3 = .ok (.iload_n 2, 1) := by decide +kernel
theorem dTR_plant_4 : decode cTR_plant 4 = .ok (.istore 5, 2) := by decide +kernel
theorem dTR_plant_6 : decode cTR_plant 6 = .ok (.iload_n 3, 1) := by decide +kernel
theorem dTR_plant_7 : decode cTR_plant 7 = .ok (.istore 6, 2) := by decide +kernel
theorem dTR_plant_9 : decode cTR_plant 9 = .ok (.iconst 1, 1) := by decide +kernel
theorem dTR_plant_10 : decode cTR_plant 10 = .ok (.istore 7, 2) := by decide +kernel
theorem dTR_plant_12 : decode cTR_plant 12 = .ok (.iload 7, 2) := by decide +kernel
theorem dTR_plant_14 : decode cTR_plant 14 = .ok (.iconst 3, 1) := by decide +kernel
theorem dTR_plant_15 : decode cTR_plant 15 = .ok (.if_icmp .ge 112, 3) := by decide +kernel
theorem dTR_plant_18 : decode cTR_plant 18 = .ok (.iload 5, 2) := by decide +kernel
theorem dTR_plant_20 : decode cTR_plant 20 = .ok (.iload 6, 2) := by decide +kernel
theorem dTR_plant_22 : decode cTR_plant 22 = .ok (.imul, 1) := by decide +kernel
theorem dTR_plant_23 : decode cTR_plant 23 = .ok (.iconst 1, 1) := by decide +kernel
theorem dTR_plant_24 : decode cTR_plant 24 = .ok (.if_icmp .le 103, 3) := by decide +kernel
theorem dTR_plant_27 : decode cTR_plant 27 = .ok (.iload 4, 2) := by decide +kernel
theorem dTR_plant_29 : decode cTR_plant 29 = .ok (.iload 5, 2) := by decide +kernel
theorem dTR_plant_31 : decode cTR_plant 31 = .ok (.iload 6, 2) := by decide +kernel
theorem dTR_plant_33 : decode cTR_plant 33 = .ok (.imul, 1) := by decide +kernel
theorem dTR_plant_34 : decode cTR_plant 34 = .ok (.iadd, 1) := by decide +kernel
theorem dTR_plant_35 : decode cTR_plant 35 = .ok (.istore 8, 2) := by decide +kernel
theorem dTR_plant_37 : decode cTR_plant 37 = .ok (.iload 5, 2) := by decide +kernel
theorem dTR_plant_39 : decode cTR_plant 39 = .ok (.iconst 1, 1) := by decide +kernel
theorem dTR_plant_40 : decode cTR_plant 40 = .ok (.iadd, 1) := by decide +kernel
theorem dTR_plant_41 : decode cTR_plant 41 = .ok (.iconst 2, 1) := by decide +kernel
theorem dTR_plant_42 : decode cTR_plant 42 = .ok (.idiv, 1) := by decide +kernel
theorem dTR_plant_43 : decode cTR_plant 43 = .ok (.istore 9, 2) := by decide +kernel
theorem dTR_plant_45 : decode cTR_plant 45 = .ok (.iconst 0, 1) := by decide +kernel
theorem dTR_plant_46 : decode cTR_plant 46 = .ok (.istore 10, 2) := by decide +kernel
theorem dTR_plant_48 : decode cTR_plant 48 = .ok (.iload 10, 2) := by decide +kernel
theorem dTR_plant_50 : decode cTR_plant 50 = .ok (.iload 6, 2) := by decide +kernel
theorem dTR_plant_52 : decode cTR_plant 52 = .ok (.if_icmp .ge 53, 3) := by decide +kernel
theorem dTR_plant_55 : decode cTR_plant 55 = .ok (.iconst 0, 1) := by decide +kernel
theorem dTR_plant_56 : decode cTR_plant 56 = .ok (.istore 11, 2) := by decide +kernel
theorem dTR_plant_58 : decode cTR_plant 58 = .ok (.iload 11, 2) := by decide +kernel
theorem dTR_plant_60 : decode cTR_plant 60 = .ok (.iload 5, 2) := by decide +kernel
theorem dTR_plant_62 : decode cTR_plant 62 = .ok (.if_icmp .ge 37, 3) := by decide +kernel
theorem dTR_plant_65 : decode cTR_plant 65 = .ok (.aload_n 0, 1) := by decide +kernel
theorem dTR_plant_66 : decode cTR_plant 66 = .ok (.iload 4, 2) := by decide +kernel
theorem dTR_plant_68 : decode cTR_plant 68 = .ok (.iload 10, 2) := by decide +kernel
theorem dTR_plant_70 : decode cTR_plant 70 = .ok (.iload 5, 2) := by decide +kernel
theorem dTR_plant_72 : decode cTR_plant 72 = .ok (.imul, 1) := by decide +kernel
theorem dTR_plant_73 : decode cTR_plant 73 = .ok (.iadd, 1) := by decide +kernel
theorem dTR_plant_74 : decode cTR_plant 74 = .ok (.iload 11, 2) := by decide +kernel
theorem dTR_plant_76 : decode cTR_plant 76 = .ok (.iadd, 1) := by decide +kernel
theorem dTR_plant_77 : decode cTR_plant 77 = .ok (.iload 8, 2) := by decide +kernel
theorem dTR_plant_79 : decode cTR_plant 79 = .ok (.iload 10, 2) := by decide +kernel
theorem dTR_plant_81 : decode cTR_plant 81 = .ok (.iconst 2, 1) := by decide +kernel
theorem dTR_plant_82 : decode cTR_plant 82 = .ok (.idiv, 1) := by decide +kernel
theorem dTR_plant_83 : decode cTR_plant 83 = .ok (.iload 9, 2) := by decide +kernel
theorem dTR_plant_85 : decode cTR_plant 85 = .ok (.imul, 1) := by decide +kernel
theorem dTR_plant_86 : decode cTR_plant 86 = .ok (.iadd, 1) := by decide +kernel
theorem dTR_plant_87 : decode cTR_plant 87 = .ok (.iload 11, 2) := by decide +kernel
theorem dTR_plant_89 : decode cTR_plant 89 = .ok (.iconst 2, 1) := by decide +kernel
theorem dTR_plant_90 : decode cTR_plant 90 = .ok (.idiv, 1) := by decide +kernel
theorem dTR_plant_91 : decode cTR_plant 91 = .ok (.iadd, 1) := by decide +kernel
theorem dTR_plant_92 : decode cTR_plant 92 = .ok (.iastore, 1) := by decide +kernel
theorem dTR_plant_93 : decode cTR_plant 93 = .ok (.iinc 11 1, 3) := by decide +kernel
theorem dTR_plant_96 : decode cTR_plant 96 = .ok (.goto (-38), 3) := by decide +kernel
theorem dTR_plant_99 : decode cTR_plant 99 = .ok (.iinc 10 1, 3) := by decide +kernel
theorem dTR_plant_102 : decode cTR_plant 102 = .ok (.goto (-54), 3) := by decide +kernel
theorem dTR_plant_105 : decode cTR_plant 105 = .ok (.iload 8, 2) := by decide +kernel
theorem dTR_plant_107 : decode cTR_plant 107 = .ok (.istore 4, 2) := by decide +kernel
theorem dTR_plant_109 : decode cTR_plant 109 = .ok (.iload 9, 2) := by decide +kernel
theorem dTR_plant_111 : decode cTR_plant 111 = .ok (.istore 5, 2) := by decide +kernel
theorem dTR_plant_113 : decode cTR_plant 113 = .ok (.iload 6, 2) := by decide +kernel
theorem dTR_plant_115 : decode cTR_plant 115 = .ok (.iconst 1, 1) := by decide +kernel
theorem dTR_plant_116 : decode cTR_plant 116 = .ok (.iadd, 1) := by decide +kernel
theorem dTR_plant_117 : decode cTR_plant 117 = .ok (.iconst 2, 1) := by decide +kernel
theorem dTR_plant_118 : decode cTR_plant 118 = .ok (.idiv, 1) := by decide +kernel
theorem dTR_plant_119 : decode cTR_plant 119 = .ok (.istore 6, 2) := by decide +kernel
theorem dTR_plant_121 : decode cTR_plant 121 = .ok (.iinc 7 1, 3) := by decide +kernel
theorem dTR_plant_124 : decode cTR_plant 124 = .ok (.goto (-112), 3) := by decide +kernel
theorem dTR_plant_127 : decode cTR_plant 127 = .ok (.return_, 1) := by decide +kernel
abbrev cTR_clear : ByteArray := prog_9_method_3_code
abbrev yTR_clear : MethodName := ⟨"PacketRows$Tree", "clear", "(I)V"⟩
abbrev wsTR_clear : List Cond := .code yTR_clear cTR_clear 3 (none) :: uU
theorem dTR_clear_0 : decode cTR_clear 0 = .ok (.iconst 0, 1) := by decide +kernel
theorem dTR_clear_1 : decode cTR_clear 1 = .ok (.istore_n 2, 1) := by decide +kernel
theorem dTR_clear_2 : decode cTR_clear 2 = .ok (.iload_n 2, 1) := by decide +kernel
theorem dTR_clear_3 : decode cTR_clear 3 = .ok (.iload_n 1, 1) := by decide +kernel
theorem dTR_clear_4 : decode cTR_clear 4 = .ok (.if_icmp .ge 32, 3) := by decide +kernel
theorem dTR_clear_7 : decode cTR_clear 7 = .ok (.aload_n 0, 1) := by decide +kernel
theorem dTR_clear_8 : decode cTR_clear 8 = .ok (.getfield 18, 3) := by decide +kernel
theorem dTR_clear_11 : decode cTR_clear 11 = .ok (.iload_n 2, 1) := by decide +kernel
theorem dTR_clear_12 : decode cTR_clear 12 = .ok (.sipush 1000, 3) := by decide +kernel
theorem dTR_clear_15 : decode cTR_clear 15 = .ok (.iastore, 1) := by decide +kernel
theorem dTR_clear_16 : decode cTR_clear 16 = .ok (.aload_n 0, 1) := by decide +kernel
theorem dTR_clear_17 : decode cTR_clear 17 = .ok (.getfield 21, 3) := by decide +kernel
theorem dTR_clear_20 : decode cTR_clear 20 = .ok (.iload_n 2, 1) := by decide +kernel
theorem dTR_clear_21 : decode cTR_clear 21 = .ok (.iconst 0, 1) := by decide +kernel
theorem dTR_clear_22 : decode cTR_clear 22 = .ok (.iastore, 1) := by decide +kernel
theorem dTR_clear_23 : decode cTR_clear 23 = .ok (.aload_n 0, 1) := by decide +kernel
theorem dTR_clear_24 : decode cTR_clear 24 = .ok (.getfield 24, 3) := by decide +kernel
theorem dTR_clear_27 : decode cTR_clear 27 = .ok (.iload_n 2, 1) := by decide +kernel
theorem dTR_clear_28 : decode cTR_clear 28 = .ok (.iconst 0, 1) := by decide +kernel
theorem dTR_clear_29 : decode cTR_clear 29 = .ok (.bastore, 1) := by decide +kernel
theorem dTR_clear_30 : decode cTR_clear 30 = .ok (.iinc 2 1, 3) := by decide +kernel
theorem dTR_clear_33 : decode cTR_clear 33 = .ok (.goto (-31), 3) := by decide +kernel
theorem dTR_clear_36 : decode cTR_clear 36 = .ok (.return_, 1) := by decide +kernel
abbrev cTR_setLeaf : ByteArray := prog_9_method_4_code
abbrev yTR_setLeaf : MethodName := ⟨"PacketRows$Tree", "setLeaf", "(II)V"⟩
abbrev wsTR_setLeaf : List Cond := .code yTR_setLeaf cTR_setLeaf 3 (none) :: uU
theorem dTR_setLeaf_0 : decode cTR_setLeaf 0 = .ok (.aload_n 0, 1) := by decide +kernel
theorem dTR_setLeaf_1 : decode cTR_setLeaf 1 = .ok (.getfield 18, 3) := by decide +kernel
theorem dTR_setLeaf_4 : decode cTR_setLeaf 4 = .ok (.iload_n 1, 1) := by decide +kernel
theorem dTR_setLeaf_5 : decode cTR_setLeaf 5 = .ok (.iload_n 2, 1) := by decide +kernel
theorem dTR_setLeaf_6 : decode cTR_setLeaf 6 = .ok (.iastore, 1) := by decide +kernel
theorem dTR_setLeaf_7 : decode cTR_setLeaf 7 = .ok (.return_, 1) := by decide +kernel
abbrev cTR_gatherLeasts : ByteArray := prog_9_method_5_code
abbrev yTR_gatherLeasts : MethodName := ⟨"PacketRows$Tree", "gatherLeasts", "(I)V"⟩
abbrev wsTR_gatherLeasts : List Cond := .code yTR_gatherLeasts cTR_gatherLeasts 4 (none) :: uU
theorem dTR_gatherLeasts_0 : decode cTR_gatherLeasts 0 = .ok (.iconst 0, 1) := by decide +kernel
theorem dTR_gatherLeasts_1 : decode cTR_gatherLeasts 1 = .ok (.istore_n 2, 1) := by decide +kernel
theorem dTR_gatherLeasts_2 : decode cTR_gatherLeasts 2 = .ok (.iload_n 2, 1) := by decide +kernel
theorem dTR_gatherLeasts_3 : decode cTR_gatherLeasts 3 = .ok (.iload_n 1, 1) := by decide +kernel
theorem dTR_gatherLeasts_4 : decode cTR_gatherLeasts 4 = .ok (.if_icmp .ge 42, 3) := by decide +kernel
theorem dTR_gatherLeasts_7 : decode cTR_gatherLeasts 7 = .ok (.aload_n 0, 1) := by decide +kernel
theorem dTR_gatherLeasts_8 : decode cTR_gatherLeasts 8 = .ok (.getfield 15, 3) := by decide +kernel
theorem dTR_gatherLeasts_11 : decode cTR_gatherLeasts 11 = .ok (.iload_n 2, 1) := by decide +kernel
theorem dTR_gatherLeasts_12 : decode cTR_gatherLeasts 12 = .ok (.iaload, 1) := by decide +kernel
theorem dTR_gatherLeasts_13 : decode cTR_gatherLeasts 13 = .ok (.istore_n 3, 1) := by decide +kernel
theorem dTR_gatherLeasts_14 : decode cTR_gatherLeasts 14 = .ok (.iload_n 3, 1) := by decide +kernel
theorem dTR_gatherLeasts_15 : decode cTR_gatherLeasts 15 = .ok (.iconst (-1), 1) := by decide +kernel
theorem dTR_gatherLeasts_16 : decode cTR_gatherLeasts 16 = .ok (.if_icmp .eq 24, 3) := by decide +kernel
theorem dTR_gatherLeasts_19 : decode cTR_gatherLeasts 19 = .ok (.aload_n 0, 1) := by decide +kernel
theorem dTR_gatherLeasts_20 : decode cTR_gatherLeasts 20 = .ok (.getfield 18, 3) := by decide +kernel
theorem dTR_gatherLeasts_23 : decode cTR_gatherLeasts 23 = .ok (.iload_n 3, 1) := by decide +kernel
theorem dTR_gatherLeasts_24 : decode cTR_gatherLeasts 24 = .ok (.aload_n 0, 1) := by decide +kernel
theorem dTR_gatherLeasts_25 : decode cTR_gatherLeasts 25 = .ok (.getfield 18, 3) := by decide +kernel
theorem dTR_gatherLeasts_28 : decode cTR_gatherLeasts 28 = .ok (.iload_n 3, 1) := by decide +kernel
theorem dTR_gatherLeasts_29 : decode cTR_gatherLeasts 29 = .ok (.iaload, 1) := by decide +kernel
theorem dTR_gatherLeasts_30 : decode cTR_gatherLeasts 30 = .ok (.aload_n 0, 1) := by decide +kernel
theorem dTR_gatherLeasts_31 : decode cTR_gatherLeasts 31 = .ok (.getfield 18, 3) := by decide +kernel
theorem dTR_gatherLeasts_34 : decode cTR_gatherLeasts 34 = .ok (.iload_n 2, 1) := by decide +kernel
theorem dTR_gatherLeasts_35 : decode cTR_gatherLeasts 35 = .ok (.iaload, 1) := by decide +kernel
theorem dTR_gatherLeasts_36 : decode cTR_gatherLeasts 36 = .ok (.invokestatic 28, 3) := by decide +kernel
theorem dTR_gatherLeasts_39 : decode cTR_gatherLeasts 39 = .ok (.iastore, 1) := by decide +kernel
theorem dTR_gatherLeasts_40 : decode cTR_gatherLeasts 40 = .ok (.iinc 2 1, 3) := by decide +kernel
theorem dTR_gatherLeasts_43 : decode cTR_gatherLeasts 43 = .ok (.goto (-41), 3) := by decide +kernel
theorem dTR_gatherLeasts_46 : decode cTR_gatherLeasts 46 = .ok (.return_, 1) := by decide +kernel
abbrev cTR_isDone : ByteArray := prog_9_method_6_code
abbrev yTR_isDone : MethodName := ⟨"PacketRows$Tree", "isDone", "(I)Z"⟩
abbrev wsTR_isDone : List Cond := .code yTR_isDone cTR_isDone 2 (some .boolean) :: uU
theorem dTR_isDone_0 : decode cTR_isDone 0 = .ok (.aload_n 0, 1) := by decide +kernel
theorem dTR_isDone_1 : decode cTR_isDone 1 = .ok (.getfield 24, 3) := by decide +kernel
theorem dTR_isDone_4 : decode cTR_isDone 4 = .ok (.iload_n 1, 1) := by decide +kernel
theorem dTR_isDone_5 : decode cTR_isDone 5 = .ok (.baload, 1) := by decide +kernel
theorem dTR_isDone_6 : decode cTR_isDone 6 = .ok (.ireturn, 1) := by decide +kernel
abbrev cTR_tell : ByteArray := prog_9_method_7_code
abbrev yTR_tell : MethodName := ⟨"PacketRows$Tree", "tell", "(LPacketRows$Bits;II)I"⟩
abbrev wsTR_tell : List Cond := .code yTR_tell cTR_tell 8 (some .int) :: uU
theorem dTR_tell_0 : decode cTR_tell 0 = .ok (.iconst 0, 1) := by decide +kernel
theorem dTR_tell_1 : decode cTR_tell 1 = .ok (.istore 4, 2) := by decide +kernel
theorem dTR_tell_3 : decode cTR_tell 3 = .ok (.iload_n 2, 1) := by decide +kernel
theorem dTR_tell_4 : decode cTR_tell 4 = .ok (.istore 5, 2) := by decide +kernel
theorem dTR_tell_6 : decode cTR_tell 6 = .ok (.iload 5, 2) := by decide +kernel
theorem dTR_tell_8 : decode cTR_tell 8 = .ok (.iconst (-1), 1) := by decide +kernel
theorem dTR_tell_9 : decode cTR_tell 9 = .ok (.if_icmp .eq 33, 3) := by decide +kernel
theorem dTR_tell_12 : decode cTR_tell 12 = .ok (.iload 4, 2) := by decide +kernel
theorem dTR_tell_14 : decode cTR_tell 14 = .ok (.iconst 3, 1) := by decide +kernel
theorem dTR_tell_15 : decode cTR_tell 15 = .ok (.if_icmp .ge 27, 3) := by decide +kernel
theorem dTR_tell_18 : decode cTR_tell 18 = .ok (.aload_n 0, 1) := by decide +kernel
theorem dTR_tell_19 : decode cTR_tell 19 = .ok (.getfield 11, 3) := by decide +kernel
theorem dTR_tell_22 : decode cTR_tell 22 = .ok (.iload 4, 2) := by decide +kernel
theorem dTR_tell_24 : decode cTR_tell 24 = .ok (.iload 5, 2) := by decide +kernel
theorem dTR_tell_26 : decode cTR_tell 26 = .ok (.iastore, 1) := by decide +kernel
theorem dTR_tell_27 : decode cTR_tell 27 = .ok (.iinc 4 1, 3) := by decide +kernel
theorem dTR_tell_30 : decode cTR_tell 30 = .ok (.aload_n 0, 1) := by decide +kernel
theorem dTR_tell_31 : decode cTR_tell 31 = .ok (.getfield 15, 3) := by decide +kernel
theorem dTR_tell_34 : decode cTR_tell 34 = .ok (.iload 5, 2) := by decide +kernel
theorem dTR_tell_36 : decode cTR_tell 36 = .ok (.iaload, 1) := by decide +kernel
theorem dTR_tell_37 : decode cTR_tell 37 = .ok (.istore 5, 2) := by decide +kernel
theorem dTR_tell_39 : decode cTR_tell 39 = .ok (.goto (-33), 3) := by decide +kernel
theorem dTR_tell_42 : decode cTR_tell 42 = .ok (.iconst 0, 1) := by decide +kernel
theorem dTR_tell_43 : decode cTR_tell 43 = .ok (.istore 5, 2) := by decide +kernel
theorem dTR_tell_45 : decode cTR_tell 45 = .ok (.iload 4, 2) := by decide +kernel
theorem dTR_tell_47 : decode cTR_tell 47 = .ok (.iconst 1, 1) := by decide +kernel
theorem dTR_tell_48 : decode cTR_tell 48 = .ok (.isub, 1) := by decide +kernel
theorem dTR_tell_49 : decode cTR_tell 49 = .ok (.istore 6, 2) := by decide +kernel
theorem dTR_tell_51 : decode cTR_tell 51 = .ok (.iload 6, 2) := by decide +kernel
theorem dTR_tell_53 : decode cTR_tell 53 = .ok (.ifCond .lt 98, 3) := by decide +kernel
theorem dTR_tell_56 : decode cTR_tell 56 = .ok (.aload_n 0, 1) := by decide +kernel
theorem dTR_tell_57 : decode cTR_tell 57 = .ok (.getfield 11, 3) := by decide +kernel
theorem dTR_tell_60 : decode cTR_tell 60 = .ok (.iload 6, 2) := by decide +kernel
theorem dTR_tell_62 : decode cTR_tell 62 = .ok (.iaload, 1) := by decide +kernel
theorem dTR_tell_63 : decode cTR_tell 63 = .ok (.istore 7, 2) := by decide +kernel
theorem dTR_tell_65 : decode cTR_tell 65 = .ok (.iload 5, 2) := by decide +kernel
theorem dTR_tell_67 : decode cTR_tell 67 = .ok (.aload_n 0, 1) := by decide +kernel
theorem dTR_tell_68 : decode cTR_tell 68 = .ok (.getfield 21, 3) := by decide +kernel
theorem dTR_tell_71 : decode cTR_tell 71 = .ok (.iload 7, 2) := by decide +kernel
theorem dTR_tell_73 : decode cTR_tell 73 = .ok (.iaload, 1) := by decide +kernel
theorem dTR_tell_74 : decode cTR_tell 74 = .ok (.invokestatic 34, 3) := by decide +kernel
theorem dTR_tell_77 : decode cTR_tell 77 = .ok (.istore 5, 2) := by decide +kernel
theorem dTR_tell_79 : decode cTR_tell 79 = .ok (.iload 5, 2) := by decide +kernel
theorem dTR_tell_81 : decode cTR_tell 81 = .ok (.iload_n 3, 1) := by decide +kernel
theorem dTR_tell_82 : decode cTR_tell 82 = .ok (.if_icmp .ge 54, 3) := by decide +kernel
theorem dTR_tell_85 : decode cTR_tell 85 = .ok (.aload_n 0, 1) := by decide +kernel
theorem dTR_tell_86 : decode cTR_tell 86 = .ok (.getfield 24, 3) := by decide +kernel
theorem dTR_tell_89 : decode cTR_tell 89 = .ok (.iload 7, 2) := by decide +kernel
theorem dTR_tell_91 : decode cTR_tell 91 = .ok (.baload, 1) := by decide +kernel
theorem dTR_tell_92 : decode cTR_tell 92 = .ok (.ifCond .ne 44, 3) := by decide +kernel
theorem dTR_tell_95 : decode cTR_tell 95 = .ok (.aload_n 1, 1) := by decide +kernel
theorem dTR_tell_96 : decode cTR_tell 96 = .ok (.aload_n 0, 1) := by decide +kernel
theorem dTR_tell_97 : decode cTR_tell 97 = .ok (.getfield 18, 3) := by decide +kernel
theorem dTR_tell_100 : decode cTR_tell 100 = .ok (.iload 7, 2) := by decide +kernel
theorem dTR_tell_102 : decode cTR_tell 102 = .ok (.iaload, 1) := by decide +kernel
theorem dTR_tell_103 : decode cTR_tell 103 = .ok (.iload 5, 2) := by decide +kernel
theorem dTR_tell_105 : decode cTR_tell 105 = .ok (.if_icmp .ne 7, 3) := by decide +kernel
theorem dTR_tell_108 : decode cTR_tell 108 = .ok (.iconst 1, 1) := by decide +kernel
theorem dTR_tell_109 : decode cTR_tell 109 = .ok (.goto 4, 3) := by decide +kernel
theorem dTR_tell_112 : decode cTR_tell 112 = .ok (.iconst 0, 1) := by decide +kernel
theorem dTR_tell_113 : decode cTR_tell 113 = .ok (.invokevirtual 37, 3) := by decide +kernel
theorem dTR_tell_116 : decode cTR_tell 116 = .ok (.ifCond .eq 14, 3) := by decide +kernel
theorem dTR_tell_119 : decode cTR_tell 119 = .ok (.aload_n 0, 1) := by decide +kernel
theorem dTR_tell_120 : decode cTR_tell 120 = .ok (.getfield 24, 3) := by decide +kernel
theorem dTR_tell_123 : decode cTR_tell 123 = .ok (.iload 7, 2) := by decide +kernel
theorem dTR_tell_125 : decode cTR_tell 125 = .ok (.iconst 1, 1) := by decide +kernel
theorem dTR_tell_126 : decode cTR_tell 126 = .ok (.bastore, 1) := by decide +kernel
theorem dTR_tell_127 : decode cTR_tell 127 = .ok (.goto (-48), 3) := by decide +kernel
theorem dTR_tell_130 : decode cTR_tell 130 = .ok (.iinc 5 1, 3) := by decide +kernel
theorem dTR_tell_133 : decode cTR_tell 133 = .ok (.goto (-54), 3) := by decide +kernel
theorem dTR_tell_136 : decode cTR_tell 136 = .ok (.aload_n 0, 1) := by decide +kernel
theorem dTR_tell_137 : decode cTR_tell 137 = .ok (.getfield 21, 3) := by decide +kernel
theorem dTR_tell_140 : decode cTR_tell 140 = .ok (.iload 7, 2) := by decide +kernel
theorem dTR_tell_142 : decode cTR_tell 142 = .ok (.iload 5, 2) := by decide +kernel
theorem dTR_tell_144 : decode cTR_tell 144 = .ok (.iastore, 1) := by decide +kernel
theorem dTR_tell_145 : decode cTR_tell 145 = .ok (.iinc 6 (-1), 3) := by decide +kernel
theorem dTR_tell_148 : decode cTR_tell 148 = .ok (.goto (-97), 3) := by decide +kernel
theorem dTR_tell_151 : decode cTR_tell 151 = .ok (.iload 5, 2) := by decide +kernel
theorem dTR_tell_153 : decode cTR_tell 153 = .ok (.ireturn, 1) := by decide +kernel
abbrev cWR_init : ByteArray := prog_10_method_1_code
abbrev yWR_init : MethodName := ⟨"PacketRows$Writer", "<init>", "(LPacketRows$ByteRow;I)V"⟩
abbrev wsWR_init : List Cond := .code yWR_init cWR_init 3 (none) :: uU
theorem dWR_init_0 : decode cWR_init 0 = .ok (.aload_n 0, 1) := by decide +kernel
theorem dWR_init_1 : decode cWR_init 1 = .ok (.invokespecial 3, 3) := by decide +kernel
theorem dWR_init_4 : decode cWR_init 4 = .ok (.aload_n 0, 1) := by decide +kernel
theorem dWR_init_5 : decode cWR_init 5 = .ok (.aload_n 1, 1) := by decide +kernel
theorem dWR_init_6 : decode cWR_init 6 = .ok (.putfield 9, 3) := by decide +kernel
theorem dWR_init_9 : decode cWR_init 9 = .ok (.aload_n 0, 1) := by decide +kernel
theorem dWR_init_10 : decode cWR_init 10 = .ok (.iload_n 2, 1) := by decide +kernel
theorem dWR_init_11 : decode cWR_init 11 = .ok (.newarray .int, 2) := by decide +kernel
theorem dWR_init_13 : decode cWR_init 13 = .ok (.putfield 15, 3) := by decide +kernel
theorem dWR_init_16 : decode cWR_init 16 = .ok (.return_, 1) := by decide +kernel
abbrev cWR_start : ByteArray := prog_10_method_2_code
abbrev yWR_start : MethodName := ⟨"PacketRows$Writer", "start", "(Z)V"⟩
abbrev wsWR_start : List Cond := .code yWR_start cWR_start 2 (none) :: uU
theorem dWR_start_0 : decode cWR_start 0 = .ok (.aload_n 0, 1) := by decide +kernel
theorem dWR_start_1 : decode cWR_start 1 = .ok (.iload_n 1, 1) := by decide +kernel
theorem dWR_start_2 : decode cWR_start 2 = .ok (.putfield 19, 3) := by decide +kernel
theorem dWR_start_5 : decode cWR_start 5 = .ok (.aload_n 0, 1) := by decide +kernel
theorem dWR_start_6 : decode cWR_start 6 = .ok (.iconst 0, 1) := by decide +kernel
theorem dWR_start_7 : decode cWR_start 7 = .ok (.putfield 23, 3) := by decide +kernel
theorem dWR_start_10 : decode cWR_start 10 = .ok (.aload_n 0, 1) := by decide +kernel
theorem dWR_start_11 : decode cWR_start 11 = .ok (.iconst 0, 1) := by decide +kernel
theorem dWR_start_12 : decode cWR_start 12 = .ok (.putfield 27, 3) := by decide +kernel
theorem dWR_start_15 : decode cWR_start 15 = .ok (.aload_n 0, 1) := by decide +kernel
theorem dWR_start_16 : decode cWR_start 16 = .ok (.bipush 8, 2) := by decide +kernel
theorem dWR_start_18 : decode cWR_start 18 = .ok (.putfield 30, 3) := by decide +kernel
theorem dWR_start_21 : decode cWR_start 21 = .ok (.return_, 1) := by decide +kernel
abbrev cWR_beginHead : ByteArray := prog_10_method_3_code
abbrev yWR_beginHead : MethodName := ⟨"PacketRows$Writer", "beginHead", "(I)V"⟩
abbrev wsWR_beginHead : List Cond := .code yWR_beginHead cWR_beginHead 2 (none) :: uU
theorem dWR_beginHead_0 : decode cWR_beginHead 0 = .ok (.aload_n 0, 1) := by decide +kernel
theorem dWR_beginHead_1 : decode cWR_beginHead 1 = .ok (.getfield 19, 3) := by decide +kernel
theorem dWR_beginHead_4 : decode cWR_beginHead 4 = .ok (.ifCond .ne 13, 3) := by decide +kernel
theorem dWR_beginHead_7 : decode cWR_beginHead 7 = .ok (.aload_n 0, 1) := by decide +kernel
theorem dWR_beginHead_8 : decode cWR_beginHead 8 = .ok (.getfield 15, 3) := by decide +kernel
theorem dWR_beginHead_11 : decode cWR_beginHead 11 = .ok (.iload_n 1, 1) := by decide +kernel
theorem dWR_beginHead_12 : decode cWR_beginHead 12 = .ok (.aload_n 0, 1) := by decide +kernel
theorem dWR_beginHead_13 : decode cWR_beginHead 13 = .ok (.getfield 23, 3) := by decide +kernel
theorem dWR_beginHead_16 : decode cWR_beginHead 16 = .ok (.iastore, 1) := by decide +kernel
theorem dWR_beginHead_17 : decode cWR_beginHead 17 = .ok (.return_, 1) := by decide +kernel
abbrev cWR_bit : ByteArray := prog_10_method_4_code
abbrev yWR_bit : MethodName := ⟨"PacketRows$Writer", "bit", "(Z)Z"⟩
abbrev wsWR_bit : List Cond := .code yWR_bit cWR_bit 2 (some .boolean) :: uU
theorem dWR_bit_0 : decode cWR_bit 0 = .ok (.aload_n 0, 1) := by decide +kernel
theorem dWR_bit_1 : decode cWR_bit 1 = .ok (.dup, 1) := by decide +kernel
theorem dWR_bit_2 : decode cWR_bit 2 = .ok (.getfield 30, 3) := by decide +kernel
theorem dWR_bit_5 : decode cWR_bit 5 = .ok (.iconst 1, 1) := by decide +kernel
theorem dWR_bit_6 : decode cWR_bit 6 = .ok (.isub, 1) := by decide +kernel
theorem dWR_bit_7 : decode cWR_bit 7 = .ok (.putfield 30, 3) := by decide +kernel
theorem dWR_bit_10 : decode cWR_bit 10 = .ok (.aload_n 0, 1) := by decide +kernel
theorem dWR_bit_11 : decode cWR_bit 11 = .ok (.dup, 1) := by decide +kernel
theorem dWR_bit_12 : decode cWR_bit 12 = .ok (.getfield 27, 3) := by decide +kernel
theorem dWR_bit_15 : decode cWR_bit 15 = .ok (.iload_n 1, 1) := by decide +kernel
theorem dWR_bit_16 : decode cWR_bit 16 = .ok (.ifCond .eq 7, 3) := by decide +kernel
theorem dWR_bit_19 : decode cWR_bit 19 = .ok (.iconst 1, 1) := by decide +kernel
theorem dWR_bit_20 : decode cWR_bit 20 = .ok (.goto 4, 3) := by decide +kernel
theorem dWR_bit_23 : decode cWR_bit 23 = .ok (.iconst 0, 1) := by decide +kernel
theorem dWR_bit_24 : decode cWR_bit 24 = .ok (.aload_n 0, 1) := by decide +kernel
theorem dWR_bit_25 : decode cWR_bit 25 = .ok (.getfield 30, 3) := by decide +kernel
theorem dWR_bit_28 : decode cWR_bit 28 = .ok (.ishl, 1) := by decide +kernel
theorem dWR_bit_29 : decode cWR_bit 29 = .ok (.ior, 1) := by decide +kernel
theorem dWR_bit_30 : decode cWR_bit 30 = .ok (.putfield 27, 3) := by decide +kernel
theorem dWR_bit_33 : decode cWR_bit 33 = .ok (.aload_n 0, 1) := by decide +kernel
theorem dWR_bit_34 : decode cWR_bit 34 = .ok (.getfield 30, 3) := by decide +kernel
theorem dWR_bit_37 : decode cWR_bit 37 = .ok (.ifCond .ne 72, 3) := by decide +kernel
theorem dWR_bit_40 : decode cWR_bit 40 = .ok (.aload_n 0, 1) := by decide +kernel
theorem dWR_bit_41 : decode cWR_bit 41 = .ok (.getfield 19, 3) := by decide +kernel
theorem dWR_bit_44 : decode cWR_bit 44 = .ok (.ifCond .ne 29, 3) := by decide +kernel
theorem dWR_bit_47 : decode cWR_bit 47 = .ok (.aload_n 0, 1) := by decide +kernel
theorem dWR_bit_48 : decode cWR_bit 48 = .ok (.getfield 23, 3) := by decide +kernel
theorem dWR_bit_51 : decode cWR_bit 51 = .ok (.sipush 6000, 3) := by decide +kernel
theorem dWR_bit_54 : decode cWR_bit 54 = .ok (.if_icmp .ge 19, 3) := by decide +kernel
theorem dWR_bit_57 : decode cWR_bit 57 = .ok (.aload_n 0, 1) := by decide +kernel
theorem dWR_bit_58 : decode cWR_bit 58 = .ok (.getfield 9, 3) := by decide +kernel
theorem dWR_bit_61 : decode cWR_bit 61 = .ok (.getfield 33, 3) := by decide +kernel
theorem dWR_bit_64 : decode cWR_bit 64 = .ok (.aload_n 0, 1) := by decide +kernel
theorem dWR_bit_65 : decode cWR_bit 65 = .ok (.getfield 23, 3) := by decide +kernel
theorem dWR_bit_68 : decode cWR_bit 68 = .ok (.aload_n 0, 1) := by decide +kernel
theorem dWR_bit_69 : decode cWR_bit 69 = .ok (.getfield 27, 3) := by decide +kernel
theorem dWR_bit_72 : decode cWR_bit 72 = .ok (.iastore, 1) := by decide +kernel
theorem dWR_bit_73 : decode cWR_bit 73 = .ok (.aload_n 0, 1) := by decide +kernel
theorem dWR_bit_74 : decode cWR_bit 74 = .ok (.dup, 1) := by decide +kernel
theorem dWR_bit_75 : decode cWR_bit 75 = .ok (.getfield 23, 3) := by decide +kernel
theorem dWR_bit_78 : decode cWR_bit 78 = .ok (.iconst 1, 1) := by decide +kernel
theorem dWR_bit_79 : decode cWR_bit 79 = .ok (.iadd, 1) := by decide +kernel
theorem dWR_bit_80 : decode cWR_bit 80 = .ok (.putfield 23, 3) := by decide +kernel
theorem dWR_bit_83 : decode cWR_bit 83 = .ok (.aload_n 0, 1) := by decide +kernel
theorem dWR_bit_84 : decode cWR_bit 84 = .ok (.aload_n 0, 1) := by decide +kernel
theorem dWR_bit_85 : decode cWR_bit 85 = .ok (.getfield 27, 3) := by decide +kernel
theorem dWR_bit_88 : decode cWR_bit 88 = .ok (.sipush 255, 3) := by decide +kernel
theorem dWR_bit_91 : decode cWR_bit 91 = .ok (.if_icmp .ne 8, 3) := by decide +kernel
theorem dWR_bit_94 : decode cWR_bit 94 = .ok (.bipush 7, 2) := by decide +kernel
theorem dWR_bit_96 : decode cWR_bit 96 = .ok (.goto 5, 3) := by decide +kernel
theorem dWR_bit_99 : decode cWR_bit 99 = .ok (.bipush 8, 2) := by decide +kernel
theorem dWR_bit_101 : decode cWR_bit 101 = .ok (.putfield 30, 3) := by decide +kernel
theorem dWR_bit_104 : decode cWR_bit 104 = .ok (.aload_n 0, 1) := by decide +kernel
theorem dWR_bit_105 : decode cWR_bit 105 = .ok (.iconst 0, 1) := by decide +kernel
theorem dWR_bit_106 : decode cWR_bit 106 = .ok (.putfield 27, 3) := by decide +kernel
theorem dWR_bit_109 : decode cWR_bit 109 = .ok (.iload_n 1, 1) := by decide +kernel
theorem dWR_bit_110 : decode cWR_bit 110 = .ok (.ireturn, 1) := by decide +kernel
abbrev cWR_endHead : ByteArray := prog_10_method_5_code
abbrev yWR_endHead : MethodName := ⟨"PacketRows$Writer", "endHead", "()V"⟩
abbrev wsWR_endHead : List Cond := .code yWR_endHead cWR_endHead 2 (none) :: uU
theorem dWR_endHead_0 : decode cWR_endHead 0 = .ok (.iconst 0, 1) := by decide +kernel
theorem dWR_endHead_1 : decode cWR_endHead 1 = .ok (.istore_n 1, 1) := by decide +kernel
theorem dWR_endHead_2 : decode cWR_endHead 2 = .ok (.iload_n 1, 1) := by decide +kernel
theorem dWR_endHead_3 : decode cWR_endHead 3 = .ok (.bipush 8, 2) := by decide +kernel
theorem dWR_endHead_5 : decode cWR_endHead 5 = .ok (.if_icmp .ge 24, 3) := by decide +kernel
theorem dWR_endHead_8 : decode cWR_endHead 8 = .ok (.aload_n 0, 1) := by decide +kernel
theorem dWR_endHead_9 : decode cWR_endHead 9 = .ok (.getfield 30, 3) := by decide +kernel
theorem dWR_endHead_12 : decode cWR_endHead 12 = .ok (.bipush 8, 2) := by decide +kernel
theorem dWR_endHead_14 : decode cWR_endHead 14 = .ok (.if_icmp .ge 15, 3) := by decide +kernel
theorem dWR_endHead_17 : decode cWR_endHead 17 = .ok (.aload_n 0, 1) := by decide +kernel
theorem dWR_endHead_18 : decode cWR_endHead 18 = .ok (.iconst 0, 1) := by decide +kernel
theorem dWR_endHead_19 : decode cWR_endHead 19 = .ok (.invokevirtual 38, 3) := by decide +kernel
theorem dWR_endHead_22 : decode cWR_endHead 22 = .ok (.pop, 1) := by decide +kernel
theorem dWR_endHead_23 : decode cWR_endHead 23 = .ok (.iinc 1 1, 3) := by decide +kernel
theorem dWR_endHead_26 : decode cWR_endHead 26 = .ok (.goto (-24), 3) := by decide +kernel
theorem dWR_endHead_29 : decode cWR_endHead 29 = .ok (.return_, 1) := by decide +kernel

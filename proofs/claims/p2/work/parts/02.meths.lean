abbrev cBT_fail : ByteArray := prog_2_method_5_code
abbrev yBT_fail : MethodName := ⟨"PacketRows$Bits", "fail", "(I)V"⟩
abbrev wsBT_fail : List Cond := .code yBT_fail cBT_fail 2 (none) :: uU
theorem dBT_fail_0 : decode cBT_fail 0 = .ok (.aload_n 0, 1) := by decide +kernel
theorem dBT_fail_1 : decode cBT_fail 1 = .ok (.getfield 7, 3) := by decide +kernel
theorem dBT_fail_4 : decode cBT_fail 4 = .ok (.ifCond .ne 8, 3) := by decide +kernel
theorem dBT_fail_7 : decode cBT_fail 7 = .ok (.aload_n 0, 1) := by decide +kernel
theorem dBT_fail_8 : decode cBT_fail 8 = .ok (.iload_n 1, 1) := by decide +kernel
theorem dBT_fail_9 : decode cBT_fail 9 = .ok (.putfield 7, 3) := by decide +kernel
theorem dBT_fail_12 : decode cBT_fail 12 = .ok (.return_, 1) := by decide +kernel
abbrev cBT_number : ByteArray := prog_2_method_6_code
abbrev yBT_number : MethodName := ⟨"PacketRows$Bits", "number", "(II)I"⟩
abbrev wsBT_number : List Cond := .code yBT_number cBT_number 5 (some .int) :: uU
theorem dBT_number_0 : decode cBT_number 0 = .ok (.iconst 0, 1) := by decide +kernel
theorem dBT_number_1 : decode cBT_number 1 = .ok (.istore_n 3, 1) := by decide +kernel
theorem dBT_number_2 : decode cBT_number 2 = .ok (.iload_n 2, 1) := by decide +kernel
theorem dBT_number_3 : decode cBT_number 3 = .ok (.iconst 1, 1) := by decide +kernel
theorem dBT_number_4 : decode cBT_number 4 = .ok (.isub, 1) := by decide +kernel
theorem dBT_number_5 : decode cBT_number 5 = .ok (.istore 4, 2) := by decide +kernel
theorem dBT_number_7 : decode cBT_number 7 = .ok (.iload 4, 2) := by decide +kernel
theorem dBT_number_9 : decode cBT_number 9 = .ok (.ifCond .lt 41, 3) := by decide +kernel
theorem dBT_number_12 : decode cBT_number 12 = .ok (.iload_n 3, 1) := by decide +kernel
theorem dBT_number_13 : decode cBT_number 13 = .ok (.iconst 1, 1) := by decide +kernel
theorem dBT_number_14 : decode cBT_number 14 = .ok (.ishl, 1) := by decide +kernel
theorem dBT_number_15 : decode cBT_number 15 = .ok (.aload_n 0, 1) := by decide +kernel
theorem dBT_number_16 : decode cBT_number 16 = .ok (.iload_n 1, 1) := by decide +kernel
theorem dBT_number_17 : decode cBT_number 17 = .ok (.iload 4, 2) := by decide +kernel
theorem dBT_number_19 : decode cBT_number 19 = .ok (.ishr, 1) := by decide +kernel
theorem dBT_number_20 : decode cBT_number 20 = .ok (.iconst 1, 1) := by decide +kernel
theorem dBT_number_21 : decode cBT_number 21 = .ok (.iand, 1) := by decide +kernel
theorem dBT_number_22 : decode cBT_number 22 = .ok (.iconst 1, 1) := by decide +kernel
theorem dBT_number_23 : decode cBT_number 23 = .ok (.if_icmp .ne 7, 3) := by decide +kernel
theorem dBT_number_26 : decode cBT_number 26 = .ok (.iconst 1, 1) := by decide +kernel
theorem dBT_number_27 : decode cBT_number 27 = .ok (.goto 4, 3) := by decide +kernel
theorem dBT_number_30 : decode cBT_number 30 = .ok (.iconst 0, 1) := by decide +kernel
theorem dBT_number_31 : decode cBT_number 31 = .ok (.invokevirtual 13, 3) := by decide +kernel
theorem dBT_number_34 : decode cBT_number 34 = .ok (.ifCond .eq 7, 3) := by decide +kernel
theorem dBT_number_37 : decode cBT_number 37 = .ok (.iconst 1, 1) := by decide +kernel
theorem dBT_number_38 : decode cBT_number 38 = .ok (.goto 4, 3) := by decide +kernel
theorem dBT_number_41 : decode cBT_number 41 = .ok (.iconst 0, 1) := by decide +kernel
theorem dBT_number_42 : decode cBT_number 42 = .ok (.ior, 1) := by decide +kernel
theorem dBT_number_43 : decode cBT_number 43 = .ok (.istore_n 3, 1) := by decide +kernel
theorem dBT_number_44 : decode cBT_number 44 = .ok (.iinc 4 (-1), 3) := by decide +kernel
theorem dBT_number_47 : decode cBT_number 47 = .ok (.goto (-40), 3) := by decide +kernel
theorem dBT_number_50 : decode cBT_number 50 = .ok (.iload_n 3, 1) := by decide +kernel
theorem dBT_number_51 : decode cBT_number 51 = .ok (.ireturn, 1) := by decide +kernel
abbrev cBR_add : ByteArray := prog_3_method_3_code
abbrev yBR_add : MethodName := ⟨"PacketRows$ByteRow", "add", "(I)V"⟩
abbrev wsBR_add : List Cond := .code yBR_add cBR_add 2 (none) :: uU
theorem dBR_add_0 : decode cBR_add 0 = .ok (.aload_n 0, 1) := by decide +kernel
theorem dBR_add_1 : decode cBR_add 1 = .ok (.getfield 15, 3) := by decide +kernel
theorem dBR_add_4 : decode cBR_add 4 = .ok (.sipush 6000, 3) := by decide +kernel
theorem dBR_add_7 : decode cBR_add 7 = .ok (.if_icmp .ge 23, 3) := by decide +kernel
theorem dBR_add_10 : decode cBR_add 10 = .ok (.aload_n 0, 1) := by decide +kernel
theorem dBR_add_11 : decode cBR_add 11 = .ok (.getfield 9, 3) := by decide +kernel
theorem dBR_add_14 : decode cBR_add 14 = .ok (.aload_n 0, 1) := by decide +kernel
theorem dBR_add_15 : decode cBR_add 15 = .ok (.getfield 15, 3) := by decide +kernel
theorem dBR_add_18 : decode cBR_add 18 = .ok (.iload_n 1, 1) := by decide +kernel
theorem dBR_add_19 : decode cBR_add 19 = .ok (.iastore, 1) := by decide +kernel
theorem dBR_add_20 : decode cBR_add 20 = .ok (.aload_n 0, 1) := by decide +kernel
theorem dBR_add_21 : decode cBR_add 21 = .ok (.dup, 1) := by decide +kernel
theorem dBR_add_22 : decode cBR_add 22 = .ok (.getfield 15, 3) := by decide +kernel
theorem dBR_add_25 : decode cBR_add 25 = .ok (.iconst 1, 1) := by decide +kernel
theorem dBR_add_26 : decode cBR_add 26 = .ok (.iadd, 1) := by decide +kernel
theorem dBR_add_27 : decode cBR_add 27 = .ok (.putfield 15, 3) := by decide +kernel
theorem dBR_add_30 : decode cBR_add 30 = .ok (.return_, 1) := by decide +kernel
abbrev cOD_addPart : ByteArray := prog_5_method_2_code
abbrev yOD_addPart : MethodName := ⟨"PacketRows$Order", "addPart", "(IIII)V"⟩
abbrev wsOD_addPart : List Cond := .code yOD_addPart cOD_addPart 5 (none) :: uU
theorem dOD_addPart_0 : decode cOD_addPart 0 = .ok (.aload_n 0, 1) := by decide +kernel
theorem dOD_addPart_1 : decode cOD_addPart 1 = .ok (.getfield 9, 3) := by decide +kernel
theorem dOD_addPart_4 : decode cOD_addPart 4 = .ok (.aload_n 0, 1) := by decide +kernel
theorem dOD_addPart_5 : decode cOD_addPart 5 = .ok (.getfield 41, 3) := by decide +kernel
theorem dOD_addPart_8 : decode cOD_addPart 8 = .ok (.iload_n 1, 1) := by decide +kernel
theorem dOD_addPart_9 : decode cOD_addPart 9 = .ok (.iastore, 1) := by decide +kernel
theorem dOD_addPart_10 : decode cOD_addPart 10 = .ok (.aload_n 0, 1) := by decide +kernel
theorem dOD_addPart_11 : decode cOD_addPart 11 = .ok (.getfield 15, 3) := by decide +kernel
theorem dOD_addPart_14 : decode cOD_addPart 14 = .ok (.aload_n 0, 1) := by decide +kernel
theorem dOD_addPart_15 : decode cOD_addPart 15 = .ok (.getfield 41, 3) := by decide +kernel
theorem dOD_addPart_18 : decode cOD_addPart 18 = .ok (.iconst 3, 1) := by decide +kernel
theorem dOD_addPart_19 : decode cOD_addPart 19 = .ok (.imul, 1) := by decide +kernel
theorem dOD_addPart_20 : decode cOD_addPart 20 = .ok (.iconst 0, 1) := by decide +kernel
theorem dOD_addPart_21 : decode cOD_addPart 21 = .ok (.iadd, 1) := by decide +kernel
theorem dOD_addPart_22 : decode cOD_addPart 22 = .ok (.iload_n 2, 1) := by decide +kernel
theorem dOD_addPart_23 : decode cOD_addPart 23 = .ok (.iastore, 1) := by decide +kernel
theorem dOD_addPart_24 : decode cOD_addPart 24 = .ok (.aload_n 0, 1) := by decide +kernel
theorem dOD_addPart_25 : decode cOD_addPart 25 = .ok (.getfield 15, 3) := by decide +kernel
theorem dOD_addPart_28 : decode cOD_addPart 28 = .ok (.aload_n 0, 1) := by decide +kernel
theorem dOD_addPart_29 : decode cOD_addPart 29 = .ok (.getfield 41, 3) := by decide +kernel
theorem dOD_addPart_32 : decode cOD_addPart 32 = .ok (.iconst 3, 1) := by decide +kernel
theorem dOD_addPart_33 : decode cOD_addPart 33 = .ok (.imul, 1) := by decide +kernel
theorem dOD_addPart_34 : decode cOD_addPart 34 = .ok (.iconst 1, 1) := by decide +kernel
theorem dOD_addPart_35 : decode cOD_addPart 35 = .ok (.iadd, 1) := by decide +kernel
theorem dOD_addPart_36 : decode cOD_addPart 36 = .ok (.iload_n 3, 1) := by decide +kernel
theorem dOD_addPart_37 : decode cOD_addPart 37 = .ok (.iastore, 1) := by decide +kernel
theorem dOD_addPart_38 : decode cOD_addPart 38 = .ok (.aload_n 0, 1) := by decide +kernel
theorem dOD_addPart_39 : decode cOD_addPart 39 = .ok (.getfield 15, 3) := by decide +kernel
theorem dOD_addPart_42 : decode cOD_addPart 42 = .ok (.aload_n 0, 1) := by decide +kernel
theorem dOD_addPart_43 : decode cOD_addPart 43 = .ok (.getfield 41, 3) := by decide +kernel
theorem dOD_addPart_46 : decode cOD_addPart 46 = .ok (.iconst 3, 1) := by decide +kernel
theorem dOD_addPart_47 : decode cOD_addPart 47 = .ok (.imul, 1) := by decide +kernel
theorem dOD_addPart_48 : decode cOD_addPart 48 = .ok (.iconst 2, 1) := by decide +kernel
theorem dOD_addPart_49 : decode cOD_addPart 49 = .ok (.iadd, 1) := by decide +kernel
theorem dOD_addPart_50 : decode cOD_addPart 50 = .ok (.iload 4, 2) := by decide +kernel
theorem dOD_addPart_52 : decode cOD_addPart 52 = .ok (.iastore, 1) := by decide +kernel
theorem dOD_addPart_53 : decode cOD_addPart 53 = .ok (.aload_n 0, 1) := by decide +kernel
theorem dOD_addPart_54 : decode cOD_addPart 54 = .ok (.dup, 1) := by decide +kernel
theorem dOD_addPart_55 : decode cOD_addPart 55 = .ok (.getfield 41, 3) := by decide +kernel
theorem dOD_addPart_58 : decode cOD_addPart 58 = .ok (.iconst 1, 1) := by decide +kernel
theorem dOD_addPart_59 : decode cOD_addPart 59 = .ok (.iadd, 1) := by decide +kernel
theorem dOD_addPart_60 : decode cOD_addPart 60 = .ok (.putfield 41, 3) := by decide +kernel
theorem dOD_addPart_63 : decode cOD_addPart 63 = .ok (.return_, 1) := by decide +kernel
abbrev cOD_placeOf : ByteArray := prog_5_method_3_code
abbrev yOD_placeOf : MethodName := ⟨"PacketRows$Order", "placeOf", "(II)I"⟩
abbrev wsOD_placeOf : List Cond := .code yOD_placeOf cOD_placeOf 3 (some .int) :: uU
theorem dOD_placeOf_0 : decode cOD_placeOf 0 = .ok (.aload_n 0, 1) := by decide +kernel
theorem dOD_placeOf_1 : decode cOD_placeOf 1 = .ok (.getfield 34, 3) := by decide +kernel
theorem dOD_placeOf_4 : decode cOD_placeOf 4 = .ok (.iload_n 1, 1) := by decide +kernel
theorem dOD_placeOf_5 : decode cOD_placeOf 5 = .ok (.iconst 4, 1) := by decide +kernel
theorem dOD_placeOf_6 : decode cOD_placeOf 6 = .ok (.imul, 1) := by decide +kernel
theorem dOD_placeOf_7 : decode cOD_placeOf 7 = .ok (.iload_n 2, 1) := by decide +kernel
theorem dOD_placeOf_8 : decode cOD_placeOf 8 = .ok (.iadd, 1) := by decide +kernel
theorem dOD_placeOf_9 : decode cOD_placeOf 9 = .ok (.iaload, 1) := by decide +kernel
theorem dOD_placeOf_10 : decode cOD_placeOf 10 = .ok (.ireturn, 1) := by decide +kernel
abbrev cPC_bandSize : ByteArray := prog_6_method_7_code
abbrev yPC_bandSize : MethodName := ⟨"PacketRows$Picture", "bandSize", "(I)I"⟩
abbrev wsPC_bandSize : List Cond := .code yPC_bandSize cPC_bandSize 2 (some .int) :: uU
theorem dPC_bandSize_0 : decode cPC_bandSize 0 = .ok (.aload_n 0, 1) := by decide +kernel
theorem dPC_bandSize_1 : decode cPC_bandSize 1 = .ok (.getfield 25, 3) := by decide +kernel
theorem dPC_bandSize_4 : decode cPC_bandSize 4 = .ok (.iload_n 1, 1) := by decide +kernel
theorem dPC_bandSize_5 : decode cPC_bandSize 5 = .ok (.iaload, 1) := by decide +kernel
theorem dPC_bandSize_6 : decode cPC_bandSize 6 = .ok (.aload_n 0, 1) := by decide +kernel
theorem dPC_bandSize_7 : decode cPC_bandSize 7 = .ok (.getfield 28, 3) := by decide +kernel
theorem dPC_bandSize_10 : decode cPC_bandSize 10 = .ok (.iload_n 1, 1) := by decide +kernel
theorem dPC_bandSize_11 : decode cPC_bandSize 11 = .ok (.iaload, 1) := by decide +kernel
theorem dPC_bandSize_12 : decode cPC_bandSize 12 = .ok (.imul, 1) := by decide +kernel
theorem dPC_bandSize_13 : decode cPC_bandSize 13 = .ok (.ireturn, 1) := by decide +kernel
abbrev cPC_blocks : ByteArray := prog_6_method_6_code
abbrev yPC_blocks : MethodName := ⟨"PacketRows$Picture", "blocks", "()I"⟩
abbrev wsPC_blocks : List Cond := .code yPC_blocks cPC_blocks 1 (some .int) :: uU
theorem dPC_blocks_0 : decode cPC_blocks 0 = .ok (.aload_n 0, 1) := by decide +kernel
theorem dPC_blocks_1 : decode cPC_blocks 1 = .ok (.getfield 31, 3) := by decide +kernel
theorem dPC_blocks_4 : decode cPC_blocks 4 = .ok (.aload_n 0, 1) := by decide +kernel
theorem dPC_blocks_5 : decode cPC_blocks 5 = .ok (.invokevirtual 50, 3) := by decide +kernel
theorem dPC_blocks_8 : decode cPC_blocks 8 = .ok (.iaload, 1) := by decide +kernel
theorem dPC_blocks_9 : decode cPC_blocks 9 = .ok (.ireturn, 1) := by decide +kernel
abbrev cPC_hasBlock : ByteArray := prog_6_method_9_code
abbrev yPC_hasBlock : MethodName := ⟨"PacketRows$Picture", "hasBlock", "(IIII)Z"⟩
abbrev wsPC_hasBlock : List Cond := .code yPC_hasBlock cPC_hasBlock 5 (some .boolean) :: uU
theorem dPC_hasBlock_0 : decode cPC_hasBlock 0 = .ok (.iload_n 2, 1) := by decide +kernel
theorem dPC_hasBlock_1 : decode cPC_hasBlock 1 = .ok (.iconst 0, 1) := by decide +kernel
theorem dPC_hasBlock_2 : decode cPC_hasBlock 2 = .ok (.aload_n 0, 1) := by decide +kernel
theorem dPC_hasBlock_3 : decode cPC_hasBlock 3 = .ok (.getfield 22, 3) := by decide +kernel
theorem dPC_hasBlock_6 : decode cPC_hasBlock 6 = .ok (.iload_n 1, 1) := by decide +kernel
theorem dPC_hasBlock_7 : decode cPC_hasBlock 7 = .ok (.iaload, 1) := by decide +kernel
theorem dPC_hasBlock_8 : decode cPC_hasBlock 8 = .ok (.iconst 1, 1) := by decide +kernel
theorem dPC_hasBlock_9 : decode cPC_hasBlock 9 = .ok (.isub, 1) := by decide +kernel
theorem dPC_hasBlock_10 : decode cPC_hasBlock 10 = .ok (.invokestatic 46, 3) := by decide +kernel
theorem dPC_hasBlock_13 : decode cPC_hasBlock 13 = .ok (.ifCond .eq 39, 3) := by decide +kernel
theorem dPC_hasBlock_16 : decode cPC_hasBlock 16 = .ok (.iload_n 3, 1) := by decide +kernel
theorem dPC_hasBlock_17 : decode cPC_hasBlock 17 = .ok (.iconst 0, 1) := by decide +kernel
theorem dPC_hasBlock_18 : decode cPC_hasBlock 18 = .ok (.aload_n 0, 1) := by decide +kernel
theorem dPC_hasBlock_19 : decode cPC_hasBlock 19 = .ok (.getfield 18, 3) := by decide +kernel
theorem dPC_hasBlock_22 : decode cPC_hasBlock 22 = .ok (.iload_n 1, 1) := by decide +kernel
theorem dPC_hasBlock_23 : decode cPC_hasBlock 23 = .ok (.iaload, 1) := by decide +kernel
theorem dPC_hasBlock_24 : decode cPC_hasBlock 24 = .ok (.iconst 1, 1) := by decide +kernel
theorem dPC_hasBlock_25 : decode cPC_hasBlock 25 = .ok (.isub, 1) := by decide +kernel
theorem dPC_hasBlock_26 : decode cPC_hasBlock 26 = .ok (.invokestatic 46, 3) := by decide +kernel
theorem dPC_hasBlock_29 : decode cPC_hasBlock 29 = .ok (.ifCond .eq 23, 3) := by decide +kernel
theorem dPC_hasBlock_32 : decode cPC_hasBlock 32 = .ok (.iload 4, 2) := by decide +kernel
theorem dPC_hasBlock_34 : decode cPC_hasBlock 34 = .ok (.iconst 0, 1) := by decide +kernel
theorem dPC_hasBlock_35 : decode cPC_hasBlock 35 = .ok (.aload_n 0, 1) := by decide +kernel
theorem dPC_hasBlock_36 : decode cPC_hasBlock 36 = .ok (.iload_n 1, 1) := by decide +kernel
theorem dPC_hasBlock_37 : decode cPC_hasBlock 37 = .ok (.invokevirtual 54, 3) := by decide +kernel
theorem dPC_hasBlock_40 : decode cPC_hasBlock 40 = .ok (.iconst 1, 1) := by decide +kernel
theorem dPC_hasBlock_41 : decode cPC_hasBlock 41 = .ok (.isub, 1) := by decide +kernel
theorem dPC_hasBlock_42 : decode cPC_hasBlock 42 = .ok (.invokestatic 46, 3) := by decide +kernel
theorem dPC_hasBlock_45 : decode cPC_hasBlock 45 = .ok (.ifCond .eq 7, 3) := by decide +kernel
theorem dPC_hasBlock_48 : decode cPC_hasBlock 48 = .ok (.iconst 1, 1) := by decide +kernel
theorem dPC_hasBlock_49 : decode cPC_hasBlock 49 = .ok (.goto 4, 3) := by decide +kernel
theorem dPC_hasBlock_52 : decode cPC_hasBlock 52 = .ok (.iconst 0, 1) := by decide +kernel
theorem dPC_hasBlock_53 : decode cPC_hasBlock 53 = .ok (.ireturn, 1) := by decide +kernel
abbrev cPC_mostBlocks : ByteArray := prog_6_method_2_code
abbrev yPC_mostBlocks : MethodName := ⟨"PacketRows$Picture", "mostBlocks", "()I"⟩
abbrev wsPC_mostBlocks : List Cond := .code yPC_mostBlocks cPC_mostBlocks 4 (some .int) :: uU
theorem dPC_mostBlocks_0 : decode cPC_mostBlocks 0 = .ok (.aload_n 0, 1) := by decide +kernel
theorem dPC_mostBlocks_1 : decode cPC_mostBlocks 1 = .ok (.getfield 15, 3) := by decide +kernel
theorem dPC_mostBlocks_4 : decode cPC_mostBlocks 4 = .ok (.iconst 1, 1) := by decide +kernel
theorem dPC_mostBlocks_5 : decode cPC_mostBlocks 5 = .ok (.isub, 1) := by decide +kernel
theorem dPC_mostBlocks_6 : decode cPC_mostBlocks 6 = .ok (.istore_n 1, 1) := by decide +kernel
theorem dPC_mostBlocks_7 : decode cPC_mostBlocks 7 = .ok (.sipush 400, 3) := by decide +kernel
theorem dPC_mostBlocks_10 : decode cPC_mostBlocks 10 = .ok (.iconst 2, 1) := by decide +kernel
theorem dPC_mostBlocks_11 : decode cPC_mostBlocks 11 = .ok (.iconst 1, 1) := by decide +kernel
theorem dPC_mostBlocks_12 : decode cPC_mostBlocks 12 = .ok (.iconst 3, 1) := by decide +kernel
theorem dPC_mostBlocks_13 : decode cPC_mostBlocks 13 = .ok (.iload_n 1, 1) := by decide +kernel
theorem dPC_mostBlocks_14 : decode cPC_mostBlocks 14 = .ok (.imul, 1) := by decide +kernel
theorem dPC_mostBlocks_15 : decode cPC_mostBlocks 15 = .ok (.iadd, 1) := by decide +kernel
theorem dPC_mostBlocks_16 : decode cPC_mostBlocks 16 = .ok (.imul, 1) := by decide +kernel
theorem dPC_mostBlocks_17 : decode cPC_mostBlocks 17 = .ok (.iadd, 1) := by decide +kernel
theorem dPC_mostBlocks_18 : decode cPC_mostBlocks 18 = .ok (.istore_n 2, 1) := by decide +kernel
theorem dPC_mostBlocks_19 : decode cPC_mostBlocks 19 = .ok (.iconst 3, 1) := by decide +kernel
theorem dPC_mostBlocks_20 : decode cPC_mostBlocks 20 = .ok (.iconst 1, 1) := by decide +kernel
theorem dPC_mostBlocks_21 : decode cPC_mostBlocks 21 = .ok (.iconst 3, 1) := by decide +kernel
theorem dPC_mostBlocks_22 : decode cPC_mostBlocks 22 = .ok (.iload_n 1, 1) := by decide +kernel
theorem dPC_mostBlocks_23 : decode cPC_mostBlocks 23 = .ok (.imul, 1) := by decide +kernel
theorem dPC_mostBlocks_24 : decode cPC_mostBlocks 24 = .ok (.iadd, 1) := by decide +kernel
theorem dPC_mostBlocks_25 : decode cPC_mostBlocks 25 = .ok (.imul, 1) := by decide +kernel
theorem dPC_mostBlocks_26 : decode cPC_mostBlocks 26 = .ok (.iconst 4, 1) := by decide +kernel
theorem dPC_mostBlocks_27 : decode cPC_mostBlocks 27 = .ok (.imul, 1) := by decide +kernel
theorem dPC_mostBlocks_28 : decode cPC_mostBlocks 28 = .ok (.iconst 4, 1) := by decide +kernel
theorem dPC_mostBlocks_29 : decode cPC_mostBlocks 29 = .ok (.imul, 1) := by decide +kernel
theorem dPC_mostBlocks_30 : decode cPC_mostBlocks 30 = .ok (.iconst 3, 1) := by decide +kernel
theorem dPC_mostBlocks_31 : decode cPC_mostBlocks 31 = .ok (.imul, 1) := by decide +kernel
theorem dPC_mostBlocks_32 : decode cPC_mostBlocks 32 = .ok (.istore_n 3, 1) := by decide +kernel
theorem dPC_mostBlocks_33 : decode cPC_mostBlocks 33 = .ok (.iload_n 2, 1) := by decide +kernel
theorem dPC_mostBlocks_34 : decode cPC_mostBlocks 34 = .ok (.iload_n 3, 1) := by decide +kernel
theorem dPC_mostBlocks_35 : decode cPC_mostBlocks 35 = .ok (.invokestatic 37, 3) := by decide +kernel
theorem dPC_mostBlocks_38 : decode cPC_mostBlocks 38 = .ok (.ireturn, 1) := by decide +kernel
abbrev cPC_mostPackets : ByteArray := prog_6_method_3_code
abbrev yPC_mostPackets : MethodName := ⟨"PacketRows$Picture", "mostPackets", "()I"⟩
abbrev wsPC_mostPackets : List Cond := .code yPC_mostPackets cPC_mostPackets 1 (some .int) :: uU
theorem dPC_mostPackets_0 : decode cPC_mostPackets 0 = .ok (.aload_n 0, 1) := by decide +kernel
theorem dPC_mostPackets_1 : decode cPC_mostPackets 1 = .ok (.getfield 9, 3) := by decide +kernel
theorem dPC_mostPackets_4 : decode cPC_mostPackets 4 = .ok (.aload_n 0, 1) := by decide +kernel
theorem dPC_mostPackets_5 : decode cPC_mostPackets 5 = .ok (.getfield 15, 3) := by decide +kernel
theorem dPC_mostPackets_8 : decode cPC_mostPackets 8 = .ok (.imul, 1) := by decide +kernel
theorem dPC_mostPackets_9 : decode cPC_mostPackets 9 = .ok (.iconst 3, 1) := by decide +kernel
theorem dPC_mostPackets_10 : decode cPC_mostPackets 10 = .ok (.imul, 1) := by decide +kernel
theorem dPC_mostPackets_11 : decode cPC_mostPackets 11 = .ok (.iconst 4, 1) := by decide +kernel
theorem dPC_mostPackets_12 : decode cPC_mostPackets 12 = .ok (.imul, 1) := by decide +kernel
theorem dPC_mostPackets_13 : decode cPC_mostPackets 13 = .ok (.ireturn, 1) := by decide +kernel
abbrev cPC_numberBlocks : ByteArray := prog_6_method_12_code
abbrev yPC_numberBlocks : MethodName := ⟨"PacketRows$Picture", "numberBlocks", "()V"⟩
abbrev wsPC_numberBlocks : List Cond := .code yPC_numberBlocks cPC_numberBlocks 2 (none) :: uU
theorem dPC_numberBlocks_0 : decode cPC_numberBlocks 0 = .ok (.iconst 0, 1) := by decide +kernel
theorem dPC_numberBlocks_1 : decode cPC_numberBlocks 1 = .ok (.istore_n 1, 1) := by decide +kernel
theorem dPC_numberBlocks_2 : decode cPC_numberBlocks 2 = .ok (.iload_n 1, 1) := by decide +kernel
theorem dPC_numberBlocks_3 : decode cPC_numberBlocks 3 = .ok (.aload_n 0, 1) := by decide +kernel
theorem dPC_numberBlocks_4 : decode cPC_numberBlocks 4 = .ok (.invokevirtual 50, 3) := by decide +kernel
theorem dPC_numberBlocks_7 : decode cPC_numberBlocks 7 = .ok (.if_icmp .ge 29, 3) := by decide +kernel
theorem dPC_numberBlocks_10 : decode cPC_numberBlocks 10 = .ok (.aload_n 0, 1) := by decide +kernel
theorem dPC_numberBlocks_11 : decode cPC_numberBlocks 11 = .ok (.getfield 31, 3) := by decide +kernel
theorem dPC_numberBlocks_14 : decode cPC_numberBlocks 14 = .ok (.iload_n 1, 1) := by decide +kernel
theorem dPC_numberBlocks_15 : decode cPC_numberBlocks 15 = .ok (.iconst 1, 1) := by decide +kernel
theorem dPC_numberBlocks_16 : decode cPC_numberBlocks 16 = .ok (.iadd, 1) := by decide +kernel
theorem dPC_numberBlocks_17 : decode cPC_numberBlocks 17 = .ok (.aload_n 0, 1) := by decide +kernel
theorem dPC_numberBlocks_18 : decode cPC_numberBlocks 18 = .ok (.getfield 31, 3) := by decide +kernel
theorem dPC_numberBlocks_21 : decode cPC_numberBlocks 21 = .ok (.iload_n 1, 1) := by decide +kernel
theorem dPC_numberBlocks_22 : decode cPC_numberBlocks 22 = .ok (.iaload, 1) := by decide +kernel
theorem dPC_numberBlocks_23 : decode cPC_numberBlocks 23 = .ok (.aload_n 0, 1) := by decide +kernel
theorem dPC_numberBlocks_24 : decode cPC_numberBlocks 24 = .ok (.iload_n 1, 1) := by decide +kernel
theorem dPC_numberBlocks_25 : decode cPC_numberBlocks 25 = .ok (.invokevirtual 61, 3) := by decide +kernel
theorem dPC_numberBlocks_28 : decode cPC_numberBlocks 28 = .ok (.iadd, 1) := by decide +kernel
theorem dPC_numberBlocks_29 : decode cPC_numberBlocks 29 = .ok (.iastore, 1) := by decide +kernel
theorem dPC_numberBlocks_30 : decode cPC_numberBlocks 30 = .ok (.iinc 1 1, 3) := by decide +kernel
theorem dPC_numberBlocks_33 : decode cPC_numberBlocks 33 = .ok (.goto (-31), 3) := by decide +kernel
theorem dPC_numberBlocks_36 : decode cPC_numberBlocks 36 = .ok (.return_, 1) := by decide +kernel
abbrev cPC_shape : ByteArray := prog_6_method_11_code
abbrev yPC_shape : MethodName := ⟨"PacketRows$Picture", "shape", "(IIII)V"⟩
abbrev wsPC_shape : List Cond := .code yPC_shape cPC_shape 5 (none) :: uU
theorem dPC_shape_0 : decode cPC_shape 0 = .ok (.aload_n 0, 1) := by decide +kernel
theorem dPC_shape_1 : decode cPC_shape 1 = .ok (.getfield 22, 3) := by decide +kernel
theorem dPC_shape_4 : decode cPC_shape 4 = .ok (.iload_n 1, 1) := by decide +kernel
theorem dPC_shape_5 : decode cPC_shape 5 = .ok (.iload_n 2, 1) := by decide +kernel
theorem dPC_shape_6 : decode cPC_shape 6 = .ok (.iastore, 1) := by decide +kernel
theorem dPC_shape_7 : decode cPC_shape 7 = .ok (.aload_n 0, 1) := by decide +kernel
theorem dPC_shape_8 : decode cPC_shape 8 = .ok (.getfield 25, 3) := by decide +kernel
theorem dPC_shape_11 : decode cPC_shape 11 = .ok (.iload_n 1, 1) := by decide +kernel
theorem dPC_shape_12 : decode cPC_shape 12 = .ok (.iload_n 3, 1) := by decide +kernel
theorem dPC_shape_13 : decode cPC_shape 13 = .ok (.iastore, 1) := by decide +kernel
theorem dPC_shape_14 : decode cPC_shape 14 = .ok (.aload_n 0, 1) := by decide +kernel
theorem dPC_shape_15 : decode cPC_shape 15 = .ok (.getfield 28, 3) := by decide +kernel
theorem dPC_shape_18 : decode cPC_shape 18 = .ok (.iload_n 1, 1) := by decide +kernel
theorem dPC_shape_19 : decode cPC_shape 19 = .ok (.iload 4, 2) := by decide +kernel
theorem dPC_shape_21 : decode cPC_shape 21 = .ok (.iastore, 1) := by decide +kernel
theorem dPC_shape_22 : decode cPC_shape 22 = .ok (.aload_n 0, 1) := by decide +kernel
theorem dPC_shape_23 : decode cPC_shape 23 = .ok (.invokevirtual 58, 3) := by decide +kernel
theorem dPC_shape_26 : decode cPC_shape 26 = .ok (.return_, 1) := by decide +kernel
abbrev cPC_slotOf : ByteArray := prog_6_method_5_code
abbrev yPC_slotOf : MethodName := ⟨"PacketRows$Picture", "slotOf", "(II)I"⟩
abbrev wsPC_slotOf : List Cond := .code yPC_slotOf cPC_slotOf 3 (some .int) :: uU
theorem dPC_slotOf_0 : decode cPC_slotOf 0 = .ok (.iload_n 1, 1) := by decide +kernel
theorem dPC_slotOf_1 : decode cPC_slotOf 1 = .ok (.iconst 0, 1) := by decide +kernel
theorem dPC_slotOf_2 : decode cPC_slotOf 2 = .ok (.aload_n 0, 1) := by decide +kernel
theorem dPC_slotOf_3 : decode cPC_slotOf 3 = .ok (.getfield 43, 3) := by decide +kernel
theorem dPC_slotOf_6 : decode cPC_slotOf 6 = .ok (.iconst 1, 1) := by decide +kernel
theorem dPC_slotOf_7 : decode cPC_slotOf 7 = .ok (.isub, 1) := by decide +kernel
theorem dPC_slotOf_8 : decode cPC_slotOf 8 = .ok (.invokestatic 46, 3) := by decide +kernel
theorem dPC_slotOf_11 : decode cPC_slotOf 11 = .ok (.ifCond .eq 17, 3) := by decide +kernel
theorem dPC_slotOf_14 : decode cPC_slotOf 14 = .ok (.iload_n 2, 1) := by decide +kernel
theorem dPC_slotOf_15 : decode cPC_slotOf 15 = .ok (.iconst 0, 1) := by decide +kernel
theorem dPC_slotOf_16 : decode cPC_slotOf 16 = .ok (.aload_n 0, 1) := by decide +kernel
theorem dPC_slotOf_17 : decode cPC_slotOf 17 = .ok (.getfield 15, 3) := by decide +kernel
theorem dPC_slotOf_20 : decode cPC_slotOf 20 = .ok (.iconst 1, 1) := by decide +kernel
theorem dPC_slotOf_21 : decode cPC_slotOf 21 = .ok (.isub, 1) := by decide +kernel
theorem dPC_slotOf_22 : decode cPC_slotOf 22 = .ok (.invokestatic 46, 3) := by decide +kernel
theorem dPC_slotOf_25 : decode cPC_slotOf 25 = .ok (.ifCond .ne 5, 3) := by decide +kernel
theorem dPC_slotOf_28 : decode cPC_slotOf 28 = .ok (.iconst (-1), 1) := by decide +kernel
theorem dPC_slotOf_29 : decode cPC_slotOf 29 = .ok (.ireturn, 1) := by decide +kernel
theorem dPC_slotOf_30 : decode cPC_slotOf 30 = .ok (.iload_n 1, 1) := by decide +kernel
theorem dPC_slotOf_31 : decode cPC_slotOf 31 = .ok (.aload_n 0, 1) := by decide +kernel
theorem dPC_slotOf_32 : decode cPC_slotOf 32 = .ok (.getfield 15, 3) := by decide +kernel
theorem dPC_slotOf_35 : decode cPC_slotOf 35 = .ok (.imul, 1) := by decide +kernel
theorem dPC_slotOf_36 : decode cPC_slotOf 36 = .ok (.iload_n 2, 1) := by decide +kernel
theorem dPC_slotOf_37 : decode cPC_slotOf 37 = .ok (.iadd, 1) := by decide +kernel
theorem dPC_slotOf_38 : decode cPC_slotOf 38 = .ok (.ireturn, 1) := by decide +kernel
abbrev cPC_slotSize : ByteArray := prog_6_method_8_code
abbrev yPC_slotSize : MethodName := ⟨"PacketRows$Picture", "slotSize", "(I)I"⟩
abbrev wsPC_slotSize : List Cond := .code yPC_slotSize cPC_slotSize 2 (some .int) :: uU
theorem dPC_slotSize_0 : decode cPC_slotSize 0 = .ok (.aload_n 0, 1) := by decide +kernel
theorem dPC_slotSize_1 : decode cPC_slotSize 1 = .ok (.getfield 22, 3) := by decide +kernel
theorem dPC_slotSize_4 : decode cPC_slotSize 4 = .ok (.iload_n 1, 1) := by decide +kernel
theorem dPC_slotSize_5 : decode cPC_slotSize 5 = .ok (.iaload, 1) := by decide +kernel
theorem dPC_slotSize_6 : decode cPC_slotSize 6 = .ok (.aload_n 0, 1) := by decide +kernel
theorem dPC_slotSize_7 : decode cPC_slotSize 7 = .ok (.getfield 18, 3) := by decide +kernel
theorem dPC_slotSize_10 : decode cPC_slotSize 10 = .ok (.iload_n 1, 1) := by decide +kernel
theorem dPC_slotSize_11 : decode cPC_slotSize 11 = .ok (.iaload, 1) := by decide +kernel
theorem dPC_slotSize_12 : decode cPC_slotSize 12 = .ok (.imul, 1) := by decide +kernel
theorem dPC_slotSize_13 : decode cPC_slotSize 13 = .ok (.aload_n 0, 1) := by decide +kernel
theorem dPC_slotSize_14 : decode cPC_slotSize 14 = .ok (.iload_n 1, 1) := by decide +kernel
theorem dPC_slotSize_15 : decode cPC_slotSize 15 = .ok (.invokevirtual 54, 3) := by decide +kernel
theorem dPC_slotSize_18 : decode cPC_slotSize 18 = .ok (.imul, 1) := by decide +kernel
theorem dPC_slotSize_19 : decode cPC_slotSize 19 = .ok (.ireturn, 1) := by decide +kernel
abbrev cPC_slots : ByteArray := prog_6_method_4_code
abbrev yPC_slots : MethodName := ⟨"PacketRows$Picture", "slots", "()I"⟩
abbrev wsPC_slots : List Cond := .code yPC_slots cPC_slots 1 (some .int) :: uU
theorem dPC_slots_0 : decode cPC_slots 0 = .ok (.aload_n 0, 1) := by decide +kernel
theorem dPC_slots_1 : decode cPC_slots 1 = .ok (.getfield 43, 3) := by decide +kernel
theorem dPC_slots_4 : decode cPC_slots 4 = .ok (.aload_n 0, 1) := by decide +kernel
theorem dPC_slots_5 : decode cPC_slots 5 = .ok (.getfield 15, 3) := by decide +kernel
theorem dPC_slots_8 : decode cPC_slots 8 = .ok (.imul, 1) := by decide +kernel
theorem dPC_slots_9 : decode cPC_slots 9 = .ok (.ireturn, 1) := by decide +kernel
abbrev cRD_beginHead : ByteArray := prog_7_method_3_code
abbrev yRD_beginHead : MethodName := ⟨"PacketRows$Reader", "beginHead", "(I)V"⟩
abbrev wsRD_beginHead : List Cond := .code yRD_beginHead cRD_beginHead 2 (none) :: uU
theorem dRD_beginHead_0 : decode cRD_beginHead 0 = .ok (.aload_n 0, 1) := by decide +kernel
theorem dRD_beginHead_1 : decode cRD_beginHead 1 = .ok (.iconst 0, 1) := by decide +kernel
theorem dRD_beginHead_2 : decode cRD_beginHead 2 = .ok (.putfield 22, 3) := by decide +kernel
theorem dRD_beginHead_5 : decode cRD_beginHead 5 = .ok (.aload_n 0, 1) := by decide +kernel
theorem dRD_beginHead_6 : decode cRD_beginHead 6 = .ok (.iconst 0, 1) := by decide +kernel
theorem dRD_beginHead_7 : decode cRD_beginHead 7 = .ok (.putfield 25, 3) := by decide +kernel
theorem dRD_beginHead_10 : decode cRD_beginHead 10 = .ok (.return_, 1) := by decide +kernel
abbrev cRD_bit : ByteArray := prog_7_method_4_code
abbrev yRD_bit : MethodName := ⟨"PacketRows$Reader", "bit", "(Z)Z"⟩
abbrev wsRD_bit : List Cond := .code yRD_bit cRD_bit 3 (some .boolean) :: uU
theorem dRD_bit_0 : decode cRD_bit 0 = .ok (.aload_n 0, 1) := by decide +kernel
theorem dRD_bit_1 : decode cRD_bit 1 = .ok (.getfield 15, 3) := by decide +kernel
theorem dRD_bit_4 : decode cRD_bit 4 = .ok (.ifCond .ne 118, 3) := by decide +kernel
theorem dRD_bit_7 : decode cRD_bit 7 = .ok (.aload_n 0, 1) := by decide +kernel
theorem dRD_bit_8 : decode cRD_bit 8 = .ok (.getfield 25, 3) := by decide +kernel
theorem dRD_bit_11 : decode cRD_bit 11 = .ok (.ifCond .ne 111, 3) := by decide +kernel
theorem dRD_bit_14 : decode cRD_bit 14 = .ok (.aload_n 0, 1) := by decide +kernel
theorem dRD_bit_15 : decode cRD_bit 15 = .ok (.getfield 22, 3) := by decide +kernel
theorem dRD_bit_18 : decode cRD_bit 18 = .ok (.sipush 255, 3) := by decide +kernel
theorem dRD_bit_21 : decode cRD_bit 21 = .ok (.if_icmp .ne 7, 3) := by decide +kernel
theorem dRD_bit_24 : decode cRD_bit 24 = .ok (.iconst 1, 1) := by decide +kernel
theorem dRD_bit_25 : decode cRD_bit 25 = .ok (.goto 4, 3) := by decide +kernel
theorem dRD_bit_28 : decode cRD_bit 28 = .ok (.iconst 0, 1) := by decide +kernel
theorem dRD_bit_29 : decode cRD_bit 29 = .ok (.istore_n 2, 1) := by decide +kernel
theorem dRD_bit_30 : decode cRD_bit 30 = .ok (.aload_n 0, 1) := by decide +kernel
theorem dRD_bit_31 : decode cRD_bit 31 = .ok (.getfield 19, 3) := by decide +kernel
theorem dRD_bit_34 : decode cRD_bit 34 = .ok (.aload_n 0, 1) := by decide +kernel
theorem dRD_bit_35 : decode cRD_bit 35 = .ok (.getfield 9, 3) := by decide +kernel
theorem dRD_bit_38 : decode cRD_bit 38 = .ok (.getfield 28, 3) := by decide +kernel
theorem dRD_bit_41 : decode cRD_bit 41 = .ok (.if_icmp .lt 11, 3) := by decide +kernel
theorem dRD_bit_44 : decode cRD_bit 44 = .ok (.aload_n 0, 1) := by decide +kernel
theorem dRD_bit_45 : decode cRD_bit 45 = .ok (.iconst 1, 1) := by decide +kernel
theorem dRD_bit_46 : decode cRD_bit 46 = .ok (.putfield 15, 3) := by decide +kernel
theorem dRD_bit_49 : decode cRD_bit 49 = .ok (.goto 73, 3) := by decide +kernel
theorem dRD_bit_52 : decode cRD_bit 52 = .ok (.iload_n 2, 1) := by decide +kernel
theorem dRD_bit_53 : decode cRD_bit 53 = .ok (.ifCond .eq 28, 3) := by decide +kernel
theorem dRD_bit_56 : decode cRD_bit 56 = .ok (.aload_n 0, 1) := by decide +kernel
theorem dRD_bit_57 : decode cRD_bit 57 = .ok (.getfield 9, 3) := by decide +kernel
theorem dRD_bit_60 : decode cRD_bit 60 = .ok (.getfield 33, 3) := by decide +kernel
theorem dRD_bit_63 : decode cRD_bit 63 = .ok (.aload_n 0, 1) := by decide +kernel
theorem dRD_bit_64 : decode cRD_bit 64 = .ok (.getfield 19, 3) := by decide +kernel
theorem dRD_bit_67 : decode cRD_bit 67 = .ok (.iaload, 1) := by decide +kernel
theorem dRD_bit_68 : decode cRD_bit 68 = .ok (.bipush 127, 2) := by decide +kernel
theorem dRD_bit_70 : decode cRD_bit 70 = .ok (.if_icmp .le 11, 3) := by decide +kernel
theorem dRD_bit_73 : decode cRD_bit 73 = .ok (.aload_n 0, 1) := by decide +kernel
theorem dRD_bit_74 : decode cRD_bit 74 = .ok (.iconst 2, 1) := by decide +kernel
theorem dRD_bit_75 : decode cRD_bit 75 = .ok (.putfield 15, 3) := by decide +kernel
theorem dRD_bit_78 : decode cRD_bit 78 = .ok (.goto 44, 3) := by decide +kernel
theorem dRD_bit_81 : decode cRD_bit 81 = .ok (.aload_n 0, 1) := by decide +kernel
theorem dRD_bit_82 : decode cRD_bit 82 = .ok (.aload_n 0, 1) := by decide +kernel
theorem dRD_bit_83 : decode cRD_bit 83 = .ok (.getfield 9, 3) := by decide +kernel
theorem dRD_bit_86 : decode cRD_bit 86 = .ok (.getfield 33, 3) := by decide +kernel
theorem dRD_bit_89 : decode cRD_bit 89 = .ok (.aload_n 0, 1) := by decide +kernel
theorem dRD_bit_90 : decode cRD_bit 90 = .ok (.getfield 19, 3) := by decide +kernel
theorem dRD_bit_93 : decode cRD_bit 93 = .ok (.iaload, 1) := by decide +kernel
theorem dRD_bit_94 : decode cRD_bit 94 = .ok (.putfield 22, 3) := by decide +kernel
theorem dRD_bit_97 : decode cRD_bit 97 = .ok (.aload_n 0, 1) := by decide +kernel
theorem dRD_bit_98 : decode cRD_bit 98 = .ok (.iload_n 2, 1) := by decide +kernel
theorem dRD_bit_99 : decode cRD_bit 99 = .ok (.ifCond .eq 8, 3) := by decide +kernel
theorem dRD_bit_102 : decode cRD_bit 102 = .ok (.bipush 7, 2) := by decide +kernel
theorem dRD_bit_104 : decode cRD_bit 104 = .ok (.goto 5, 3) := by decide +kernel
theorem dRD_bit_107 : decode cRD_bit 107 = .ok (.bipush 8, 2) := by decide +kernel
theorem dRD_bit_109 : decode cRD_bit 109 = .ok (.putfield 25, 3) := by decide +kernel
theorem dRD_bit_112 : decode cRD_bit 112 = .ok (.aload_n 0, 1) := by decide +kernel
theorem dRD_bit_113 : decode cRD_bit 113 = .ok (.dup, 1) := by decide +kernel
theorem dRD_bit_114 : decode cRD_bit 114 = .ok (.getfield 19, 3) := by decide +kernel
theorem dRD_bit_117 : decode cRD_bit 117 = .ok (.iconst 1, 1) := by decide +kernel
theorem dRD_bit_118 : decode cRD_bit 118 = .ok (.iadd, 1) := by decide +kernel
theorem dRD_bit_119 : decode cRD_bit 119 = .ok (.putfield 19, 3) := by decide +kernel
theorem dRD_bit_122 : decode cRD_bit 122 = .ok (.aload_n 0, 1) := by decide +kernel
theorem dRD_bit_123 : decode cRD_bit 123 = .ok (.getfield 15, 3) := by decide +kernel
theorem dRD_bit_126 : decode cRD_bit 126 = .ok (.ifCond .eq 5, 3) := by decide +kernel
theorem dRD_bit_129 : decode cRD_bit 129 = .ok (.iconst 0, 1) := by decide +kernel
theorem dRD_bit_130 : decode cRD_bit 130 = .ok (.ireturn, 1) := by decide +kernel
theorem dRD_bit_131 : decode cRD_bit 131 = .ok (.aload_n 0, 1) := by decide +kernel
theorem dRD_bit_132 : decode cRD_bit 132 = .ok (.dup, 1) := by decide +kernel
theorem dRD_bit_133 : decode cRD_bit 133 = .ok (.getfield 25, 3) := by decide +kernel
theorem dRD_bit_136 : decode cRD_bit 136 = .ok (.iconst 1, 1) := by decide +kernel
theorem dRD_bit_137 : decode cRD_bit 137 = .ok (.isub, 1) := by decide +kernel
theorem dRD_bit_138 : decode cRD_bit 138 = .ok (.putfield 25, 3) := by decide +kernel
theorem dRD_bit_141 : decode cRD_bit 141 = .ok (.aload_n 0, 1) := by decide +kernel
theorem dRD_bit_142 : decode cRD_bit 142 = .ok (.getfield 22, 3) := by decide +kernel
theorem dRD_bit_145 : decode cRD_bit 145 = .ok (.aload_n 0, 1) := by decide +kernel
theorem dRD_bit_146 : decode cRD_bit 146 = .ok (.getfield 25, 3) := by decide +kernel
theorem dRD_bit_149 : decode cRD_bit 149 = .ok (.ishr, 1) := by decide +kernel
theorem dRD_bit_150 : decode cRD_bit 150 = .ok (.iconst 1, 1) := by decide +kernel
theorem dRD_bit_151 : decode cRD_bit 151 = .ok (.iand, 1) := by decide +kernel
theorem dRD_bit_152 : decode cRD_bit 152 = .ok (.iconst 1, 1) := by decide +kernel
theorem dRD_bit_153 : decode cRD_bit 153 = .ok (.if_icmp .ne 7, 3) := by decide +kernel
theorem dRD_bit_156 : decode cRD_bit 156 = .ok (.iconst 1, 1) := by decide +kernel
theorem dRD_bit_157 : decode cRD_bit 157 = .ok (.goto 4, 3) := by decide +kernel
theorem dRD_bit_160 : decode cRD_bit 160 = .ok (.iconst 0, 1) := by decide +kernel
theorem dRD_bit_161 : decode cRD_bit 161 = .ok (.ireturn, 1) := by decide +kernel
abbrev cRD_endHead : ByteArray := prog_7_method_5_code
abbrev yRD_endHead : MethodName := ⟨"PacketRows$Reader", "endHead", "()V"⟩
abbrev wsRD_endHead : List Cond := .code yRD_endHead cRD_endHead 1 (none) :: uU
theorem dRD_endHead_0 : decode cRD_endHead 0 = .ok (.aload_n 0, 1) := by decide +kernel
theorem dRD_endHead_1 : decode cRD_endHead 1 = .ok (.getfield 22, 3) := by decide +kernel
theorem dRD_endHead_4 : decode cRD_endHead 4 = .ok (.sipush 255, 3) := by decide +kernel
theorem dRD_endHead_7 : decode cRD_endHead 7 = .ok (.if_icmp .ne 14, 3) := by decide +kernel
theorem dRD_endHead_10 : decode cRD_endHead 10 = .ok (.aload_n 0, 1) := by decide +kernel
theorem dRD_endHead_11 : decode cRD_endHead 11 = .ok (.iconst 0, 1) := by decide +kernel
theorem dRD_endHead_12 : decode cRD_endHead 12 = .ok (.putfield 25, 3) := by decide +kernel
theorem dRD_endHead_15 : decode cRD_endHead 15 = .ok (.aload_n 0, 1) := by decide +kernel
theorem dRD_endHead_16 : decode cRD_endHead 16 = .ok (.iconst 0, 1) := by decide +kernel
theorem dRD_endHead_17 : decode cRD_endHead 17 = .ok (.invokevirtual 37, 3) := by decide +kernel
theorem dRD_endHead_20 : decode cRD_endHead 20 = .ok (.pop, 1) := by decide +kernel
theorem dRD_endHead_21 : decode cRD_endHead 21 = .ok (.return_, 1) := by decide +kernel
abbrev cRD_start : ByteArray := prog_7_method_2_code
abbrev yRD_start : MethodName := ⟨"PacketRows$Reader", "start", "()V"⟩
abbrev wsRD_start : List Cond := .code yRD_start cRD_start 1 (none) :: uU
theorem dRD_start_0 : decode cRD_start 0 = .ok (.aload_n 0, 1) := by decide +kernel
theorem dRD_start_1 : decode cRD_start 1 = .ok (.iconst 0, 1) := by decide +kernel
theorem dRD_start_2 : decode cRD_start 2 = .ok (.putfield 15, 3) := by decide +kernel
theorem dRD_start_5 : decode cRD_start 5 = .ok (.aload_n 0, 1) := by decide +kernel
theorem dRD_start_6 : decode cRD_start 6 = .ok (.iconst 0, 1) := by decide +kernel
theorem dRD_start_7 : decode cRD_start 7 = .ok (.putfield 19, 3) := by decide +kernel
theorem dRD_start_10 : decode cRD_start 10 = .ok (.return_, 1) := by decide +kernel
abbrev cRW_anyComes : ByteArray := prog_8_method_5_code
abbrev yRW_anyComes : MethodName := ⟨"PacketRows$Rows", "anyComes", "(III)Z"⟩
abbrev wsRW_anyComes : List Cond := .code yRW_anyComes cRW_anyComes 5 (some .boolean) :: uU
theorem dRW_anyComes_0 : decode cRW_anyComes 0 = .ok (.iload_n 2, 1) := by decide +kernel
theorem dRW_anyComes_1 : decode cRW_anyComes 1 = .ok (.istore 4, 2) := by decide +kernel
theorem dRW_anyComes_3 : decode cRW_anyComes 3 = .ok (.iload 4, 2) := by decide +kernel
theorem dRW_anyComes_5 : decode cRW_anyComes 5 = .ok (.iload_n 3, 1) := by decide +kernel
theorem dRW_anyComes_6 : decode cRW_anyComes 6 = .ok (.if_icmp .ge 21, 3) := by decide +kernel
theorem dRW_anyComes_9 : decode cRW_anyComes 9 = .ok (.aload_n 0, 1) := by decide +kernel
theorem dRW_anyComes_10 : decode cRW_anyComes 10 = .ok (.iload 4, 2) := by decide +kernel
theorem dRW_anyComes_12 : decode cRW_anyComes 12 = .ok (.iload_n 1, 1) := by decide +kernel
theorem dRW_anyComes_13 : decode cRW_anyComes 13 = .ok (.invokevirtual 23, 3) := by decide +kernel
theorem dRW_anyComes_16 : decode cRW_anyComes 16 = .ok (.ifCond .le 5, 3) := by decide +kernel
theorem dRW_anyComes_19 : decode cRW_anyComes 19 = .ok (.iconst 1, 1) := by decide +kernel
theorem dRW_anyComes_20 : decode cRW_anyComes 20 = .ok (.ireturn, 1) := by decide +kernel
theorem dRW_anyComes_21 : decode cRW_anyComes 21 = .ok (.iinc 4 1, 3) := by decide +kernel
theorem dRW_anyComes_24 : decode cRW_anyComes 24 = .ok (.goto (-21), 3) := by decide +kernel
theorem dRW_anyComes_27 : decode cRW_anyComes 27 = .ok (.iconst 0, 1) := by decide +kernel
theorem dRW_anyComes_28 : decode cRW_anyComes 28 = .ok (.ireturn, 1) := by decide +kernel
abbrev cRW_firstOf : ByteArray := prog_8_method_4_code
abbrev yRW_firstOf : MethodName := ⟨"PacketRows$Rows", "firstOf", "(I)I"⟩
abbrev wsRW_firstOf : List Cond := .code yRW_firstOf cRW_firstOf 3 (some .int) :: uU
theorem dRW_firstOf_0 : decode cRW_firstOf 0 = .ok (.iconst 0, 1) := by decide +kernel
theorem dRW_firstOf_1 : decode cRW_firstOf 1 = .ok (.istore_n 2, 1) := by decide +kernel
theorem dRW_firstOf_2 : decode cRW_firstOf 2 = .ok (.iload_n 2, 1) := by decide +kernel
theorem dRW_firstOf_3 : decode cRW_firstOf 3 = .ok (.aload_n 0, 1) := by decide +kernel
theorem dRW_firstOf_4 : decode cRW_firstOf 4 = .ok (.getfield 7, 3) := by decide +kernel
theorem dRW_firstOf_7 : decode cRW_firstOf 7 = .ok (.if_icmp .ge 20, 3) := by decide +kernel
theorem dRW_firstOf_10 : decode cRW_firstOf 10 = .ok (.aload_n 0, 1) := by decide +kernel
theorem dRW_firstOf_11 : decode cRW_firstOf 11 = .ok (.iload_n 1, 1) := by decide +kernel
theorem dRW_firstOf_12 : decode cRW_firstOf 12 = .ok (.iload_n 2, 1) := by decide +kernel
theorem dRW_firstOf_13 : decode cRW_firstOf 13 = .ok (.invokevirtual 23, 3) := by decide +kernel
theorem dRW_firstOf_16 : decode cRW_firstOf 16 = .ok (.ifCond .le 5, 3) := by decide +kernel
theorem dRW_firstOf_19 : decode cRW_firstOf 19 = .ok (.iload_n 2, 1) := by decide +kernel
theorem dRW_firstOf_20 : decode cRW_firstOf 20 = .ok (.ireturn, 1) := by decide +kernel
theorem dRW_firstOf_21 : decode cRW_firstOf 21 = .ok (.iinc 2 1, 3) := by decide +kernel
theorem dRW_firstOf_24 : decode cRW_firstOf 24 = .ok (.goto (-22), 3) := by decide +kernel
theorem dRW_firstOf_27 : decode cRW_firstOf 27 = .ok (.aload_n 0, 1) := by decide +kernel
theorem dRW_firstOf_28 : decode cRW_firstOf 28 = .ok (.getfield 7, 3) := by decide +kernel
theorem dRW_firstOf_31 : decode cRW_firstOf 31 = .ok (.ireturn, 1) := by decide +kernel
abbrev cRW_lengthOf : ByteArray := prog_8_method_3_code
abbrev yRW_lengthOf : MethodName := ⟨"PacketRows$Rows", "lengthOf", "(II)I"⟩
abbrev wsRW_lengthOf : List Cond := .code yRW_lengthOf cRW_lengthOf 3 (some .int) :: uU
theorem dRW_lengthOf_0 : decode cRW_lengthOf 0 = .ok (.aload_n 0, 1) := by decide +kernel
theorem dRW_lengthOf_1 : decode cRW_lengthOf 1 = .ok (.getfield 17, 3) := by decide +kernel
theorem dRW_lengthOf_4 : decode cRW_lengthOf 4 = .ok (.iload_n 1, 1) := by decide +kernel
theorem dRW_lengthOf_5 : decode cRW_lengthOf 5 = .ok (.aload_n 0, 1) := by decide +kernel
theorem dRW_lengthOf_6 : decode cRW_lengthOf 6 = .ok (.getfield 7, 3) := by decide +kernel
theorem dRW_lengthOf_9 : decode cRW_lengthOf 9 = .ok (.imul, 1) := by decide +kernel
theorem dRW_lengthOf_10 : decode cRW_lengthOf 10 = .ok (.iload_n 2, 1) := by decide +kernel
theorem dRW_lengthOf_11 : decode cRW_lengthOf 11 = .ok (.iadd, 1) := by decide +kernel
theorem dRW_lengthOf_12 : decode cRW_lengthOf 12 = .ok (.iaload, 1) := by decide +kernel
theorem dRW_lengthOf_13 : decode cRW_lengthOf 13 = .ok (.ireturn, 1) := by decide +kernel
abbrev cRW_passesOf : ByteArray := prog_8_method_2_code
abbrev yRW_passesOf : MethodName := ⟨"PacketRows$Rows", "passesOf", "(II)I"⟩
abbrev wsRW_passesOf : List Cond := .code yRW_passesOf cRW_passesOf 3 (some .int) :: uU
theorem dRW_passesOf_0 : decode cRW_passesOf 0 = .ok (.aload_n 0, 1) := by decide +kernel
theorem dRW_passesOf_1 : decode cRW_passesOf 1 = .ok (.getfield 13, 3) := by decide +kernel
theorem dRW_passesOf_4 : decode cRW_passesOf 4 = .ok (.iload_n 1, 1) := by decide +kernel
theorem dRW_passesOf_5 : decode cRW_passesOf 5 = .ok (.aload_n 0, 1) := by decide +kernel
theorem dRW_passesOf_6 : decode cRW_passesOf 6 = .ok (.getfield 7, 3) := by decide +kernel
theorem dRW_passesOf_9 : decode cRW_passesOf 9 = .ok (.imul, 1) := by decide +kernel
theorem dRW_passesOf_10 : decode cRW_passesOf 10 = .ok (.iload_n 2, 1) := by decide +kernel
theorem dRW_passesOf_11 : decode cRW_passesOf 11 = .ok (.iadd, 1) := by decide +kernel
theorem dRW_passesOf_12 : decode cRW_passesOf 12 = .ok (.iaload, 1) := by decide +kernel
theorem dRW_passesOf_13 : decode cRW_passesOf 13 = .ok (.ireturn, 1) := by decide +kernel
abbrev cRW_put : ByteArray := prog_8_method_6_code
abbrev yRW_put : MethodName := ⟨"PacketRows$Rows", "put", "(IIII)V"⟩
abbrev wsRW_put : List Cond := .code yRW_put cRW_put 5 (none) :: uU
theorem dRW_put_0 : decode cRW_put 0 = .ok (.aload_n 0, 1) := by decide +kernel
theorem dRW_put_1 : decode cRW_put 1 = .ok (.getfield 13, 3) := by decide +kernel
theorem dRW_put_4 : decode cRW_put 4 = .ok (.iload_n 1, 1) := by decide +kernel
theorem dRW_put_5 : decode cRW_put 5 = .ok (.aload_n 0, 1) := by decide +kernel
theorem dRW_put_6 : decode cRW_put 6 = .ok (.getfield 7, 3) := by decide +kernel
theorem dRW_put_9 : decode cRW_put 9 = .ok (.imul, 1) := by decide +kernel
theorem dRW_put_10 : decode cRW_put 10 = .ok (.iload_n 2, 1) := by decide +kernel
theorem dRW_put_11 : decode cRW_put 11 = .ok (.iadd, 1) := by decide +kernel
theorem dRW_put_12 : decode cRW_put 12 = .ok (.iload_n 3, 1) := by decide +kernel
theorem dRW_put_13 : decode cRW_put 13 = .ok (.iastore, 1) := by decide +kernel
theorem dRW_put_14 : decode cRW_put 14 = .ok (.aload_n 0, 1) := by decide +kernel
theorem dRW_put_15 : decode cRW_put 15 = .ok (.getfield 17, 3) := by decide +kernel
theorem dRW_put_18 : decode cRW_put 18 = .ok (.iload_n 1, 1) := by decide +kernel
theorem dRW_put_19 : decode cRW_put 19 = .ok (.aload_n 0, 1) := by decide +kernel
theorem dRW_put_20 : decode cRW_put 20 = .ok (.getfield 7, 3) := by decide +kernel
theorem dRW_put_23 : decode cRW_put 23 = .ok (.imul, 1) := by decide +kernel
theorem dRW_put_24 : decode cRW_put 24 = .ok (.iload_n 2, 1) := by decide +kernel
theorem dRW_put_25 : decode cRW_put 25 = .ok (.iadd, 1) := by decide +kernel
theorem dRW_put_26 : decode cRW_put 26 = .ok (.iload 4, 2) := by decide +kernel
theorem dRW_put_28 : decode cRW_put 28 = .ok (.iastore, 1) := by decide +kernel
theorem dRW_put_29 : decode cRW_put 29 = .ok (.return_, 1) := by decide +kernel
abbrev cTR_clear : ByteArray := prog_9_method_3_code
abbrev yTR_clear : MethodName := ⟨"PacketRows$Tree", "clear", "(I)V"⟩
abbrev wsTR_clear : List Cond := .code yTR_clear cTR_clear 3 (none) :: uU
theorem dTR_clear_0 : decode cTR_clear 0 = .ok (.iconst 0, 1) := by decide +kernel
theorem dTR_clear_1 : decode cTR_clear 1 = .ok (.istore_n 2, 1) := by decide +kernel
theorem dTR_clear_2 : decode cTR_clear 2 = .ok (.iload_n 2, 1) := by decide +kernel
theorem dTR_clear_3 : decode cTR_clear 3 = .ok (.iload_n 1, 1) := by decide +kernel
theorem dTR_clear_4 : decode cTR_clear 4 = .ok (.if_icmp .ge 32, 3) := by decide +kernel
theorem dTR_clear_7 : decode cTR_clear 7 = .ok (.aload_n 0, 1) := by decide +kernel
theorem dTR_clear_8 : decode cTR_clear 8 = .ok (.getfield 18, 3) := by decide +kernel
theorem dTR_clear_11 : decode cTR_clear 11 = .ok (.iload_n 2, 1) := by decide +kernel
theorem dTR_clear_12 : decode cTR_clear 12 = .ok (.sipush 1000, 3) := by decide +kernel
theorem dTR_clear_15 : decode cTR_clear 15 = .ok (.iastore, 1) := by decide +kernel
theorem dTR_clear_16 : decode cTR_clear 16 = .ok (.aload_n 0, 1) := by decide +kernel
theorem dTR_clear_17 : decode cTR_clear 17 = .ok (.getfield 21, 3) := by decide +kernel
theorem dTR_clear_20 : decode cTR_clear 20 = .ok (.iload_n 2, 1) := by decide +kernel
theorem dTR_clear_21 : decode cTR_clear 21 = .ok (.iconst 0, 1) := by decide +kernel
theorem dTR_clear_22 : decode cTR_clear 22 = .ok (.iastore, 1) := by decide +kernel
theorem dTR_clear_23 : decode cTR_clear 23 = .ok (.aload_n 0, 1) := by decide +kernel
theorem dTR_clear_24 : decode cTR_clear 24 = .ok (.getfield 24, 3) := by decide +kernel
theorem dTR_clear_27 : decode cTR_clear 27 = .ok (.iload_n 2, 1) := by decide +kernel
theorem dTR_clear_28 : decode cTR_clear 28 = .ok (.iconst 0, 1) := by decide +kernel
theorem dTR_clear_29 : decode cTR_clear 29 = .ok (.bastore, 1) := by decide +kernel
theorem dTR_clear_30 : decode cTR_clear 30 = .ok (.iinc 2 1, 3) := by decide +kernel
theorem dTR_clear_33 : decode cTR_clear 33 = .ok (.goto (-31), 3) := by decide +kernel
theorem dTR_clear_36 : decode cTR_clear 36 = .ok (.return_, 1) := by decide +kernel
abbrev cTR_gatherLeasts : ByteArray := prog_9_method_5_code
abbrev yTR_gatherLeasts : MethodName := ⟨"PacketRows$Tree", "gatherLeasts", "(I)V"⟩
abbrev wsTR_gatherLeasts : List Cond := .code yTR_gatherLeasts cTR_gatherLeasts 4 (none) :: uU
theorem dTR_gatherLeasts_0 : decode cTR_gatherLeasts 0 = .ok (.iconst 0, 1) := by decide +kernel
theorem dTR_gatherLeasts_1 : decode cTR_gatherLeasts 1 = .ok (.istore_n 2, 1) := by decide +kernel
theorem dTR_gatherLeasts_2 : decode cTR_gatherLeasts 2 = .ok (.iload_n 2, 1) := by decide +kernel
theorem dTR_gatherLeasts_3 : decode cTR_gatherLeasts 3 = .ok (.iload_n 1, 1) := by decide +kernel
theorem dTR_gatherLeasts_4 : decode cTR_gatherLeasts 4 = .ok (.if_icmp .ge 42, 3) := by decide +kernel
theorem dTR_gatherLeasts_7 : decode cTR_gatherLeasts 7 = .ok (.aload_n 0, 1) := by decide +kernel
theorem dTR_gatherLeasts_8 : decode cTR_gatherLeasts 8 = .ok (.getfield 15, 3) := by decide +kernel
theorem dTR_gatherLeasts_11 : decode cTR_gatherLeasts 11 = .ok (.iload_n 2, 1) := by decide +kernel
theorem dTR_gatherLeasts_12 : decode cTR_gatherLeasts 12 = .ok (.iaload, 1) := by decide +kernel
theorem dTR_gatherLeasts_13 : decode cTR_gatherLeasts 13 = .ok (.istore_n 3, 1) := by decide +kernel
theorem dTR_gatherLeasts_14 : decode cTR_gatherLeasts 14 = .ok (.iload_n 3, 1) := by decide +kernel
theorem dTR_gatherLeasts_15 : decode cTR_gatherLeasts 15 = .ok (.iconst (-1), 1) := by decide +kernel
theorem dTR_gatherLeasts_16 : decode cTR_gatherLeasts 16 = .ok (.if_icmp .eq 24, 3) := by decide +kernel
theorem dTR_gatherLeasts_19 : decode cTR_gatherLeasts 19 = .ok (.aload_n 0, 1) := by decide +kernel
theorem dTR_gatherLeasts_20 : decode cTR_gatherLeasts 20 = .ok (.getfield 18, 3) := by decide +kernel
theorem dTR_gatherLeasts_23 : decode cTR_gatherLeasts 23 = .ok (.iload_n 3, 1) := by decide +kernel
theorem dTR_gatherLeasts_24 : decode cTR_gatherLeasts 24 = .ok (.aload_n 0, 1) := by decide +kernel
theorem dTR_gatherLeasts_25 : decode cTR_gatherLeasts 25 = .ok (.getfield 18, 3) := by decide +kernel
theorem dTR_gatherLeasts_28 : decode cTR_gatherLeasts 28 = .ok (.iload_n 3, 1) := by decide +kernel
theorem dTR_gatherLeasts_29 : decode cTR_gatherLeasts 29 = .ok (.iaload, 1) := by decide +kernel
theorem dTR_gatherLeasts_30 : decode cTR_gatherLeasts 30 = .ok (.aload_n 0, 1) := by decide +kernel
theorem dTR_gatherLeasts_31 : decode cTR_gatherLeasts 31 = .ok (.getfield 18, 3) := by decide +kernel
theorem dTR_gatherLeasts_34 : decode cTR_gatherLeasts 34 = .ok (.iload_n 2, 1) := by decide +kernel
theorem dTR_gatherLeasts_35 : decode cTR_gatherLeasts 35 = .ok (.iaload, 1) := by decide +kernel
theorem dTR_gatherLeasts_36 : decode cTR_gatherLeasts 36 = .ok (.invokestatic 28, 3) := by decide +kernel
theorem dTR_gatherLeasts_39 : decode cTR_gatherLeasts 39 = .ok (.iastore, 1) := by decide +kernel
theorem dTR_gatherLeasts_40 : decode cTR_gatherLeasts 40 = .ok (.iinc 2 1, 3) := by decide +kernel
theorem dTR_gatherLeasts_43 : decode cTR_gatherLeasts 43 = .ok (.goto (-41), 3) := by decide +kernel
theorem dTR_gatherLeasts_46 : decode cTR_gatherLeasts 46 = .ok (.return_, 1) := by decide +kernel
abbrev cTR_isDone : ByteArray := prog_9_method_6_code
abbrev yTR_isDone : MethodName := ⟨"PacketRows$Tree", "isDone", "(I)Z"⟩
abbrev wsTR_isDone : List Cond := .code yTR_isDone cTR_isDone 2 (some .boolean) :: uU
theorem dTR_isDone_0 : decode cTR_isDone 0 = .ok (.aload_n 0, 1) := by decide +kernel
theorem dTR_isDone_1 : decode cTR_isDone 1 = .ok (.getfield 24, 3) := by decide +kernel
theorem dTR_isDone_4 : decode cTR_isDone 4 = .ok (.iload_n 1, 1) := by decide +kernel
theorem dTR_isDone_5 : decode cTR_isDone 5 = .ok (.baload, 1) := by decide +kernel
theorem dTR_isDone_6 : decode cTR_isDone 6 = .ok (.ireturn, 1) := by decide +kernel
abbrev cTR_setLeaf : ByteArray := prog_9_method_4_code
abbrev yTR_setLeaf : MethodName := ⟨"PacketRows$Tree", "setLeaf", "(II)V"⟩
abbrev wsTR_setLeaf : List Cond := .code yTR_setLeaf cTR_setLeaf 3 (none) :: uU
theorem dTR_setLeaf_0 : decode cTR_setLeaf 0 = .ok (.aload_n 0, 1) := by decide +kernel
theorem dTR_setLeaf_1 : decode cTR_setLeaf 1 = .ok (.getfield 18, 3) := by decide +kernel
theorem dTR_setLeaf_4 : decode cTR_setLeaf 4 = .ok (.iload_n 1, 1) := by decide +kernel
theorem dTR_setLeaf_5 : decode cTR_setLeaf 5 = .ok (.iload_n 2, 1) := by decide +kernel
theorem dTR_setLeaf_6 : decode cTR_setLeaf 6 = .ok (.iastore, 1) := by decide +kernel
theorem dTR_setLeaf_7 : decode cTR_setLeaf 7 = .ok (.return_, 1) := by decide +kernel
abbrev cWR_beginHead : ByteArray := prog_10_method_3_code
abbrev yWR_beginHead : MethodName := ⟨"PacketRows$Writer", "beginHead", "(I)V"⟩
abbrev wsWR_beginHead : List Cond := .code yWR_beginHead cWR_beginHead 2 (none) :: uU
theorem dWR_beginHead_0 : decode cWR_beginHead 0 = .ok (.aload_n 0, 1) := by decide +kernel
theorem dWR_beginHead_1 : decode cWR_beginHead 1 = .ok (.getfield 19, 3) := by decide +kernel
theorem dWR_beginHead_4 : decode cWR_beginHead 4 = .ok (.ifCond .ne 13, 3) := by decide +kernel
theorem dWR_beginHead_7 : decode cWR_beginHead 7 = .ok (.aload_n 0, 1) := by decide +kernel
theorem dWR_beginHead_8 : decode cWR_beginHead 8 = .ok (.getfield 15, 3) := by decide +kernel
theorem dWR_beginHead_11 : decode cWR_beginHead 11 = .ok (.iload_n 1, 1) := by decide +kernel
theorem dWR_beginHead_12 : decode cWR_beginHead 12 = .ok (.aload_n 0, 1) := by decide +kernel
theorem dWR_beginHead_13 : decode cWR_beginHead 13 = .ok (.getfield 23, 3) := by decide +kernel
theorem dWR_beginHead_16 : decode cWR_beginHead 16 = .ok (.iastore, 1) := by decide +kernel
theorem dWR_beginHead_17 : decode cWR_beginHead 17 = .ok (.return_, 1) := by decide +kernel
abbrev cWR_bit : ByteArray := prog_10_method_4_code
abbrev yWR_bit : MethodName := ⟨"PacketRows$Writer", "bit", "(Z)Z"⟩
abbrev wsWR_bit : List Cond := .code yWR_bit cWR_bit 2 (some .boolean) :: uU
theorem dWR_bit_0 : decode cWR_bit 0 = .ok (.aload_n 0, 1) := by decide +kernel
theorem dWR_bit_1 : decode cWR_bit 1 = .ok (.dup, 1) := by decide +kernel
theorem dWR_bit_2 : decode cWR_bit 2 = .ok (.getfield 30, 3) := by decide +kernel
theorem dWR_bit_5 : decode cWR_bit 5 = .ok (.iconst 1, 1) := by decide +kernel
theorem dWR_bit_6 : decode cWR_bit 6 = .ok (.isub, 1) := by decide +kernel
theorem dWR_bit_7 : decode cWR_bit 7 = .ok (.putfield 30, 3) := by decide +kernel
theorem dWR_bit_10 : decode cWR_bit 10 = .ok (.aload_n 0, 1) := by decide +kernel
theorem dWR_bit_11 : decode cWR_bit 11 = .ok (.dup, 1) := by decide +kernel
theorem dWR_bit_12 : decode cWR_bit 12 = .ok (.getfield 27, 3) := by decide +kernel
theorem dWR_bit_15 : decode cWR_bit 15 = .ok (.iload_n 1, 1) := by decide +kernel
theorem dWR_bit_16 : decode cWR_bit 16 = .ok (.ifCond .eq 7, 3) := by decide +kernel
theorem dWR_bit_19 : decode cWR_bit 19 = .ok (.iconst 1, 1) := by decide +kernel
theorem dWR_bit_20 : decode cWR_bit 20 = .ok (.goto 4, 3) := by decide +kernel
theorem dWR_bit_23 : decode cWR_bit 23 = .ok (.iconst 0, 1) := by decide +kernel
theorem dWR_bit_24 : decode cWR_bit 24 = .ok (.aload_n 0, 1) := by decide +kernel
theorem dWR_bit_25 : decode cWR_bit 25 = .ok (.getfield 30, 3) := by decide +kernel
theorem dWR_bit_28 : decode cWR_bit 28 = .ok (.ishl, 1) := by decide +kernel
theorem dWR_bit_29 : decode cWR_bit 29 = .ok (.ior, 1) := by decide +kernel
theorem dWR_bit_30 : decode cWR_bit 30 = .ok (.putfield 27, 3) := by decide +kernel
theorem dWR_bit_33 : decode cWR_bit 33 = .ok (.aload_n 0, 1) := by decide +kernel
theorem dWR_bit_34 : decode cWR_bit 34 = .ok (.getfield 30, 3) := by decide +kernel
theorem dWR_bit_37 : decode cWR_bit 37 = .ok (.ifCond .ne 72, 3) := by decide +kernel
theorem dWR_bit_40 : decode cWR_bit 40 = .ok (.aload_n 0, 1) := by decide +kernel
theorem dWR_bit_41 : decode cWR_bit 41 = .ok (.getfield 19, 3) := by decide +kernel
theorem dWR_bit_44 : decode cWR_bit 44 = .ok (.ifCond .ne 29, 3) := by decide +kernel
theorem dWR_bit_47 : decode cWR_bit 47 = .ok (.aload_n 0, 1) := by decide +kernel
theorem dWR_bit_48 : decode cWR_bit 48 = .ok (.getfield 23, 3) := by decide +kernel
theorem dWR_bit_51 : decode cWR_bit 51 = .ok (.sipush 6000, 3) := by decide +kernel
theorem dWR_bit_54 : decode cWR_bit 54 = .ok (.if_icmp .ge 19, 3) := by decide +kernel
theorem dWR_bit_57 : decode cWR_bit 57 = .ok (.aload_n 0, 1) := by decide +kernel
theorem dWR_bit_58 : decode cWR_bit 58 = .ok (.getfield 9, 3) := by decide +kernel
theorem dWR_bit_61 : decode cWR_bit 61 = .ok (.getfield 33, 3) := by decide +kernel
theorem dWR_bit_64 : decode cWR_bit 64 = .ok (.aload_n 0, 1) := by decide +kernel
theorem dWR_bit_65 : decode cWR_bit 65 = .ok (.getfield 23, 3) := by decide +kernel
theorem dWR_bit_68 : decode cWR_bit 68 = .ok (.aload_n 0, 1) := by decide +kernel
theorem dWR_bit_69 : decode cWR_bit 69 = .ok (.getfield 27, 3) := by decide +kernel
theorem dWR_bit_72 : decode cWR_bit 72 = .ok (.iastore, 1) := by decide +kernel
theorem dWR_bit_73 : decode cWR_bit 73 = .ok (.aload_n 0, 1) := by decide +kernel
theorem dWR_bit_74 : decode cWR_bit 74 = .ok (.dup, 1) := by decide +kernel
theorem dWR_bit_75 : decode cWR_bit 75 = .ok (.getfield 23, 3) := by decide +kernel
theorem dWR_bit_78 : decode cWR_bit 78 = .ok (.iconst 1, 1) := by decide +kernel
theorem dWR_bit_79 : decode cWR_bit 79 = .ok (.iadd, 1) := by decide +kernel
theorem dWR_bit_80 : decode cWR_bit 80 = .ok (.putfield 23, 3) := by decide +kernel
theorem dWR_bit_83 : decode cWR_bit 83 = .ok (.aload_n 0, 1) := by decide +kernel
theorem dWR_bit_84 : decode cWR_bit 84 = .ok (.aload_n 0, 1) := by decide +kernel
theorem dWR_bit_85 : decode cWR_bit 85 = .ok (.getfield 27, 3) := by decide +kernel
theorem dWR_bit_88 : decode cWR_bit 88 = .ok (.sipush 255, 3) := by decide +kernel
theorem dWR_bit_91 : decode cWR_bit 91 = .ok (.if_icmp .ne 8, 3) := by decide +kernel
theorem dWR_bit_94 : decode cWR_bit 94 = .ok (.bipush 7, 2) := by decide +kernel
theorem dWR_bit_96 : decode cWR_bit 96 = .ok (.goto 5, 3) := by decide +kernel
theorem dWR_bit_99 : decode cWR_bit 99 = .ok (.bipush 8, 2) := by decide +kernel
theorem dWR_bit_101 : decode cWR_bit 101 = .ok (.putfield 30, 3) := by decide +kernel
theorem dWR_bit_104 : decode cWR_bit 104 = .ok (.aload_n 0, 1) := by decide +kernel
theorem dWR_bit_105 : decode cWR_bit 105 = .ok (.iconst 0, 1) := by decide +kernel
theorem dWR_bit_106 : decode cWR_bit 106 = .ok (.putfield 27, 3) := by decide +kernel
theorem dWR_bit_109 : decode cWR_bit 109 = .ok (.iload_n 1, 1) := by decide +kernel
theorem dWR_bit_110 : decode cWR_bit 110 = .ok (.ireturn, 1) := by decide +kernel
abbrev cWR_endHead : ByteArray := prog_10_method_5_code
abbrev yWR_endHead : MethodName := ⟨"PacketRows$Writer", "endHead", "()V"⟩
abbrev wsWR_endHead : List Cond := .code yWR_endHead cWR_endHead 2 (none) :: uU
theorem dWR_endHead_0 : decode cWR_endHead 0 = .ok (.iconst 0, 1) := by decide +kernel
theorem dWR_endHead_1 : decode cWR_endHead 1 = .ok (.istore_n 1, 1) := by decide +kernel
theorem dWR_endHead_2 : decode cWR_endHead 2 = .ok (.iload_n 1, 1) := by decide +kernel
theorem dWR_endHead_3 : decode cWR_endHead 3 = .ok (.bipush 8, 2) := by decide +kernel
theorem dWR_endHead_5 : decode cWR_endHead 5 = .ok (.if_icmp .ge 24, 3) := by decide +kernel
theorem dWR_endHead_8 : decode cWR_endHead 8 = .ok (.aload_n 0, 1) := by decide +kernel
theorem dWR_endHead_9 : decode cWR_endHead 9 = .ok (.getfield 30, 3) := by decide +kernel
theorem dWR_endHead_12 : decode cWR_endHead 12 = .ok (.bipush 8, 2) := by decide +kernel
theorem dWR_endHead_14 : decode cWR_endHead 14 = .ok (.if_icmp .ge 15, 3) := by decide +kernel
theorem dWR_endHead_17 : decode cWR_endHead 17 = .ok (.aload_n 0, 1) := by decide +kernel
theorem dWR_endHead_18 : decode cWR_endHead 18 = .ok (.iconst 0, 1) := by decide +kernel
theorem dWR_endHead_19 : decode cWR_endHead 19 = .ok (.invokevirtual 38, 3) := by decide +kernel
theorem dWR_endHead_22 : decode cWR_endHead 22 = .ok (.pop, 1) := by decide +kernel
theorem dWR_endHead_23 : decode cWR_endHead 23 = .ok (.iinc 1 1, 3) := by decide +kernel
theorem dWR_endHead_26 : decode cWR_endHead 26 = .ok (.goto (-24), 3) := by decide +kernel
theorem dWR_endHead_29 : decode cWR_endHead 29 = .ok (.return_, 1) := by decide +kernel
abbrev cWR_start : ByteArray := prog_10_method_2_code
abbrev yWR_start : MethodName := ⟨"PacketRows$Writer", "start", "(Z)V"⟩
abbrev wsWR_start : List Cond := .code yWR_start cWR_start 2 (none) :: uU
theorem dWR_start_0 : decode cWR_start 0 = .ok (.aload_n 0, 1) := by decide +kernel
theorem dWR_start_1 : decode cWR_start 1 = .ok (.iload_n 1, 1) := by decide +kernel
theorem dWR_start_2 : decode cWR_start 2 = .ok (.putfield 19, 3) := by decide +kernel
theorem dWR_start_5 : decode cWR_start 5 = .ok (.aload_n 0, 1) := by decide +kernel
theorem dWR_start_6 : decode cWR_start 6 = .ok (.iconst 0, 1) := by decide +kernel
theorem dWR_start_7 : decode cWR_start 7 = .ok (.putfield 23, 3) := by decide +kernel
theorem dWR_start_10 : decode cWR_start 10 = .ok (.aload_n 0, 1) := by decide +kernel
theorem dWR_start_11 : decode cWR_start 11 = .ok (.iconst 0, 1) := by decide +kernel
theorem dWR_start_12 : decode cWR_start 12 = .ok (.putfield 27, 3) := by decide +kernel
theorem dWR_start_15 : decode cWR_start 15 = .ok (.aload_n 0, 1) := by decide +kernel
theorem dWR_start_16 : decode cWR_start 16 = .ok (.bipush 8, 2) := by decide +kernel
theorem dWR_start_18 : decode cWR_start 18 = .ok (.putfield 30, 3) := by decide +kernel
theorem dWR_start_21 : decode cWR_start 21 = .ok (.return_, 1) := by decide +kernel
abbrev cPR_isWithin : ByteArray := prog_1_method_19_code
abbrev yPR_isWithin : MethodName := ⟨"PacketRows", "isWithin", "(III)Z"⟩
abbrev wsPR_isWithin : List Cond := .code yPR_isWithin cPR_isWithin 3 (some .boolean) :: uU
theorem dPR_isWithin_0 : decode cPR_isWithin 0 = .ok (.iload_n 0, 1) := by decide +kernel
theorem dPR_isWithin_1 : decode cPR_isWithin 1 = .ok (.iload_n 1, 1) := by decide +kernel
theorem dPR_isWithin_2 : decode cPR_isWithin 2 = .ok (.if_icmp .lt 12, 3) := by decide +kernel
theorem dPR_isWithin_5 : decode cPR_isWithin 5 = .ok (.iload_n 0, 1) := by decide +kernel
theorem dPR_isWithin_6 : decode cPR_isWithin 6 = .ok (.iload_n 2, 1) := by decide +kernel
theorem dPR_isWithin_7 : decode cPR_isWithin 7 = .ok (.if_icmp .gt 7, 3) := by decide +kernel
theorem dPR_isWithin_10 : decode cPR_isWithin 10 = .ok (.iconst 1, 1) := by decide +kernel
theorem dPR_isWithin_11 : decode cPR_isWithin 11 = .ok (.goto 4, 3) := by decide +kernel
theorem dPR_isWithin_14 : decode cPR_isWithin 14 = .ok (.iconst 0, 1) := by decide +kernel
theorem dPR_isWithin_15 : decode cPR_isWithin 15 = .ok (.ireturn, 1) := by decide +kernel

abbrev cLW_cell : ByteArray := method_2_code
abbrev yLW_cell : MethodName := ⟨"PacketRowsLaw", "cell", "([II)I"⟩
abbrev wsLW_cell : List Cond := .code yLW_cell cLW_cell 2 (some .int) :: uU
theorem dLW_cell_0 : decode cLW_cell 0 = .ok (.iload_n 1, 1) := by decide +kernel
theorem dLW_cell_1 : decode cLW_cell 1 = .ok (.aload_n 0, 1) := by decide +kernel
theorem dLW_cell_2 : decode cLW_cell 2 = .ok (.arraylength, 1) := by decide +kernel
theorem dLW_cell_3 : decode cLW_cell 3 = .ok (.if_icmp .ge 9, 3) := by decide +kernel
theorem dLW_cell_6 : decode cLW_cell 6 = .ok (.aload_n 0, 1) := by decide +kernel
theorem dLW_cell_7 : decode cLW_cell 7 = .ok (.iload_n 1, 1) := by decide +kernel
theorem dLW_cell_8 : decode cLW_cell 8 = .ok (.iaload, 1) := by decide +kernel
theorem dLW_cell_9 : decode cLW_cell 9 = .ok (.goto 4, 3) := by decide +kernel
theorem dLW_cell_12 : decode cLW_cell 12 = .ok (.iconst 0, 1) := by decide +kernel
theorem dLW_cell_13 : decode cLW_cell 13 = .ok (.ireturn, 1) := by decide +kernel
abbrev cLW_grid : ByteArray := method_3_code
abbrev yLW_grid : MethodName := ⟨"PacketRowsLaw", "grid", "(LPacketRows;IIIII[J)I"⟩
abbrev wsLW_grid : List Cond := .codeWith yLW_grid cLW_grid 8 (some .int) [(0, 16, 19, 13), (0, 16, 23, 15)] :: uU
theorem dLW_grid_0 : decode cLW_grid 0 = .ok (.aload 6, 2) := by decide +kernel
theorem dLW_grid_2 : decode cLW_grid 2 = .ok (.iconst 0, 1) := by decide +kernel
theorem dLW_grid_3 : decode cLW_grid 3 = .ok (.aload_n 0, 1) := by decide +kernel
theorem dLW_grid_4 : decode cLW_grid 4 = .ok (.iload_n 1, 1) := by decide +kernel
theorem dLW_grid_5 : decode cLW_grid 5 = .ok (.iload_n 2, 1) := by decide +kernel
theorem dLW_grid_6 : decode cLW_grid 6 = .ok (.iload_n 3, 1) := by decide +kernel
theorem dLW_grid_7 : decode cLW_grid 7 = .ok (.iload 4, 2) := by decide +kernel
theorem dLW_grid_9 : decode cLW_grid 9 = .ok (.iload 5, 2) := by decide +kernel
theorem dLW_grid_11 : decode cLW_grid 11 = .ok (.invokevirtual 7, 3) := by decide +kernel
theorem dLW_grid_14 : decode cLW_grid 14 = .ok (.i2l, 1) := by decide +kernel
theorem dLW_grid_15 : decode cLW_grid 15 = .ok (.lastore, 1) := by decide +kernel
theorem dLW_grid_16 : decode cLW_grid 16 = .ok (.goto 11, 3) := by decide +kernel
theorem dLW_grid_19 : decode cLW_grid 19 = .ok (.astore 7, 2) := by decide +kernel
theorem dLW_grid_21 : decode cLW_grid 21 = .ok (.iconst 1, 1) := by decide +kernel
theorem dLW_grid_22 : decode cLW_grid 22 = .ok (.ireturn, 1) := by decide +kernel
theorem dLW_grid_23 : decode cLW_grid 23 = .ok (.astore 7, 2) := by decide +kernel
theorem dLW_grid_25 : decode cLW_grid 25 = .ok (.iconst 2, 1) := by decide +kernel
theorem dLW_grid_26 : decode cLW_grid 26 = .ok (.ireturn, 1) := by decide +kernel
theorem dLW_grid_27 : decode cLW_grid 27 = .ok (.iconst 0, 1) := by decide +kernel
theorem dLW_grid_28 : decode cLW_grid 28 = .ok (.ireturn, 1) := by decide +kernel
abbrev cLW_choose : ByteArray := method_4_code
abbrev yLW_choose : MethodName := ⟨"PacketRowsLaw", "choose", "(LPacketRows;IIIII[J)I"⟩
abbrev wsLW_choose : List Cond := .codeWith yLW_choose cLW_choose 8 (some .int) [(0, 16, 19, 13)] :: uU
theorem dLW_choose_0 : decode cLW_choose 0 = .ok (.aload 6, 2) := by decide +kernel
theorem dLW_choose_2 : decode cLW_choose 2 = .ok (.iconst 0, 1) := by decide +kernel
theorem dLW_choose_3 : decode cLW_choose 3 = .ok (.aload_n 0, 1) := by decide +kernel
theorem dLW_choose_4 : decode cLW_choose 4 = .ok (.iload_n 1, 1) := by decide +kernel
theorem dLW_choose_5 : decode cLW_choose 5 = .ok (.iload_n 2, 1) := by decide +kernel
theorem dLW_choose_6 : decode cLW_choose 6 = .ok (.iload_n 3, 1) := by decide +kernel
theorem dLW_choose_7 : decode cLW_choose 7 = .ok (.iload 4, 2) := by decide +kernel
theorem dLW_choose_9 : decode cLW_choose 9 = .ok (.iload 5, 2) := by decide +kernel
theorem dLW_choose_11 : decode cLW_choose 11 = .ok (.invokevirtual 17, 3) := by decide +kernel
theorem dLW_choose_14 : decode cLW_choose 14 = .ok (.i2l, 1) := by decide +kernel
theorem dLW_choose_15 : decode cLW_choose 15 = .ok (.lastore, 1) := by decide +kernel
theorem dLW_choose_16 : decode cLW_choose 16 = .ok (.goto 7, 3) := by decide +kernel
theorem dLW_choose_19 : decode cLW_choose 19 = .ok (.astore 7, 2) := by decide +kernel
theorem dLW_choose_21 : decode cLW_choose 21 = .ok (.iconst 1, 1) := by decide +kernel
theorem dLW_choose_22 : decode cLW_choose 22 = .ok (.ireturn, 1) := by decide +kernel
theorem dLW_choose_23 : decode cLW_choose 23 = .ok (.iconst 0, 1) := by decide +kernel
theorem dLW_choose_24 : decode cLW_choose 24 = .ok (.ireturn, 1) := by decide +kernel
abbrev cLW_passes : ByteArray := method_5_code
abbrev yLW_passes : MethodName := ⟨"PacketRowsLaw", "passes", "(LPacketRows;III)I"⟩
abbrev wsLW_passes : List Cond := .codeWith yLW_passes cLW_passes 5 (some .int) [(0, 7, 10, 13), (0, 7, 14, 15)] :: uU
theorem dLW_passes_0 : decode cLW_passes 0 = .ok (.aload_n 0, 1) := by decide +kernel
theorem dLW_passes_1 : decode cLW_passes 1 = .ok (.iload_n 1, 1) := by decide +kernel
theorem dLW_passes_2 : decode cLW_passes 2 = .ok (.iload_n 2, 1) := by decide +kernel
theorem dLW_passes_3 : decode cLW_passes 3 = .ok (.iload_n 3, 1) := by decide +kernel
theorem dLW_passes_4 : decode cLW_passes 4 = .ok (.invokevirtual 20, 3) := by decide +kernel
theorem dLW_passes_7 : decode cLW_passes 7 = .ok (.goto 11, 3) := by decide +kernel
theorem dLW_passes_10 : decode cLW_passes 10 = .ok (.astore 4, 2) := by decide +kernel
theorem dLW_passes_12 : decode cLW_passes 12 = .ok (.iconst 1, 1) := by decide +kernel
theorem dLW_passes_13 : decode cLW_passes 13 = .ok (.ireturn, 1) := by decide +kernel
theorem dLW_passes_14 : decode cLW_passes 14 = .ok (.astore 4, 2) := by decide +kernel
theorem dLW_passes_16 : decode cLW_passes 16 = .ok (.iconst 2, 1) := by decide +kernel
theorem dLW_passes_17 : decode cLW_passes 17 = .ok (.ireturn, 1) := by decide +kernel
theorem dLW_passes_18 : decode cLW_passes 18 = .ok (.iconst 0, 1) := by decide +kernel
theorem dLW_passes_19 : decode cLW_passes 19 = .ok (.ireturn, 1) := by decide +kernel
abbrev cLW_zero : ByteArray := method_6_code
abbrev yLW_zero : MethodName := ⟨"PacketRowsLaw", "zero", "(LPacketRows;I)I"⟩
abbrev wsLW_zero : List Cond := .codeWith yLW_zero cLW_zero 3 (some .int) [(0, 5, 8, 15)] :: uU
theorem dLW_zero_0 : decode cLW_zero 0 = .ok (.aload_n 0, 1) := by decide +kernel
theorem dLW_zero_1 : decode cLW_zero 1 = .ok (.iload_n 1, 1) := by decide +kernel
theorem dLW_zero_2 : decode cLW_zero 2 = .ok (.invokevirtual 24, 3) := by decide +kernel
theorem dLW_zero_5 : decode cLW_zero 5 = .ok (.goto 6, 3) := by decide +kernel
theorem dLW_zero_8 : decode cLW_zero 8 = .ok (.astore_n 2, 1) := by decide +kernel
theorem dLW_zero_9 : decode cLW_zero 9 = .ok (.iconst 1, 1) := by decide +kernel
theorem dLW_zero_10 : decode cLW_zero 10 = .ok (.ireturn, 1) := by decide +kernel
theorem dLW_zero_11 : decode cLW_zero 11 = .ok (.iconst 0, 1) := by decide +kernel
theorem dLW_zero_12 : decode cLW_zero 12 = .ok (.ireturn, 1) := by decide +kernel
abbrev cLW_part : ByteArray := method_7_code
abbrev yLW_part : MethodName := ⟨"PacketRowsLaw", "part", "(LPacketRows;IIII[J)I"⟩
abbrev wsLW_part : List Cond := .codeWith yLW_part cLW_part 7 (some .int) [(0, 14, 17, 15)] :: uU
theorem dLW_part_0 : decode cLW_part 0 = .ok (.aload 5, 2) := by decide +kernel
theorem dLW_part_2 : decode cLW_part 2 = .ok (.iconst 0, 1) := by decide +kernel
theorem dLW_part_3 : decode cLW_part 3 = .ok (.aload_n 0, 1) := by decide +kernel
theorem dLW_part_4 : decode cLW_part 4 = .ok (.iload_n 1, 1) := by decide +kernel
theorem dLW_part_5 : decode cLW_part 5 = .ok (.iload_n 2, 1) := by decide +kernel
theorem dLW_part_6 : decode cLW_part 6 = .ok (.iload_n 3, 1) := by decide +kernel
theorem dLW_part_7 : decode cLW_part 7 = .ok (.iload 4, 2) := by decide +kernel
theorem dLW_part_9 : decode cLW_part 9 = .ok (.invokevirtual 28, 3) := by decide +kernel
theorem dLW_part_12 : decode cLW_part 12 = .ok (.i2l, 1) := by decide +kernel
theorem dLW_part_13 : decode cLW_part 13 = .ok (.lastore, 1) := by decide +kernel
theorem dLW_part_14 : decode cLW_part 14 = .ok (.goto 7, 3) := by decide +kernel
theorem dLW_part_17 : decode cLW_part 17 = .ok (.astore 6, 2) := by decide +kernel
theorem dLW_part_19 : decode cLW_part 19 = .ok (.iconst 1, 1) := by decide +kernel
theorem dLW_part_20 : decode cLW_part 20 = .ok (.ireturn, 1) := by decide +kernel
theorem dLW_part_21 : decode cLW_part 21 = .ok (.iconst 0, 1) := by decide +kernel
theorem dLW_part_22 : decode cLW_part 22 = .ok (.ireturn, 1) := by decide +kernel
abbrev cLW_packet : ByteArray := method_8_code
abbrev yLW_packet : MethodName := ⟨"PacketRowsLaw", "packet", "(LPacketRows;II[J)I"⟩
abbrev wsLW_packet : List Cond := .codeWith yLW_packet cLW_packet 5 (some .int) [(0, 10, 13, 13)] :: uU
theorem dLW_packet_0 : decode cLW_packet 0 = .ok (.aload_n 3, 1) := by decide +kernel
theorem dLW_packet_1 : decode cLW_packet 1 = .ok (.iconst 0, 1) := by decide +kernel
theorem dLW_packet_2 : decode cLW_packet 2 = .ok (.aload_n 0, 1) := by decide +kernel
theorem dLW_packet_3 : decode cLW_packet 3 = .ok (.iload_n 1, 1) := by decide +kernel
theorem dLW_packet_4 : decode cLW_packet 4 = .ok (.iload_n 2, 1) := by decide +kernel
theorem dLW_packet_5 : decode cLW_packet 5 = .ok (.invokevirtual 32, 3) := by decide +kernel
theorem dLW_packet_8 : decode cLW_packet 8 = .ok (.i2l, 1) := by decide +kernel
theorem dLW_packet_9 : decode cLW_packet 9 = .ok (.lastore, 1) := by decide +kernel
theorem dLW_packet_10 : decode cLW_packet 10 = .ok (.goto 7, 3) := by decide +kernel
theorem dLW_packet_13 : decode cLW_packet 13 = .ok (.astore 4, 2) := by decide +kernel
theorem dLW_packet_15 : decode cLW_packet 15 = .ok (.iconst 1, 1) := by decide +kernel
theorem dLW_packet_16 : decode cLW_packet 16 = .ok (.ireturn, 1) := by decide +kernel
theorem dLW_packet_17 : decode cLW_packet 17 = .ok (.iconst 0, 1) := by decide +kernel
theorem dLW_packet_18 : decode cLW_packet 18 = .ok (.ireturn, 1) := by decide +kernel
abbrev cLW_feed : ByteArray := method_9_code
abbrev yLW_feed : MethodName := ⟨"PacketRowsLaw", "feed", "(LPacketRows;IJ[J)I"⟩
abbrev wsLW_feed : List Cond := .codeWith yLW_feed cLW_feed 6 (some .int) [(0, 11, 14, 15)] :: uU
theorem dLW_feed_0 : decode cLW_feed 0 = .ok (.aload 4, 2) := by decide +kernel
theorem dLW_feed_2 : decode cLW_feed 2 = .ok (.iconst 0, 1) := by decide +kernel
theorem dLW_feed_3 : decode cLW_feed 3 = .ok (.aload_n 0, 1) := by decide +kernel
theorem dLW_feed_4 : decode cLW_feed 4 = .ok (.iload_n 1, 1) := by decide +kernel
theorem dLW_feed_5 : decode cLW_feed 5 = .ok (.lload_n 2, 1) := by decide +kernel
theorem dLW_feed_6 : decode cLW_feed 6 = .ok (.invokevirtual 36, 3) := by decide +kernel
theorem dLW_feed_9 : decode cLW_feed 9 = .ok (.i2l, 1) := by decide +kernel
theorem dLW_feed_10 : decode cLW_feed 10 = .ok (.lastore, 1) := by decide +kernel
theorem dLW_feed_11 : decode cLW_feed 11 = .ok (.goto 7, 3) := by decide +kernel
theorem dLW_feed_14 : decode cLW_feed 14 = .ok (.astore 5, 2) := by decide +kernel
theorem dLW_feed_16 : decode cLW_feed 16 = .ok (.iconst 1, 1) := by decide +kernel
theorem dLW_feed_17 : decode cLW_feed 17 = .ok (.ireturn, 1) := by decide +kernel
theorem dLW_feed_18 : decode cLW_feed 18 = .ok (.iconst 0, 1) := by decide +kernel
theorem dLW_feed_19 : decode cLW_feed 19 = .ok (.ireturn, 1) := by decide +kernel
abbrev cLW_got : ByteArray := method_10_code
abbrev yLW_got : MethodName := ⟨"PacketRowsLaw", "got", "(LPacketRows;II[J)I"⟩
abbrev wsLW_got : List Cond := .codeWith yLW_got cLW_got 5 (some .int) [(0, 10, 13, 13)] :: uU
theorem dLW_got_0 : decode cLW_got 0 = .ok (.aload_n 3, 1) := by decide +kernel
theorem dLW_got_1 : decode cLW_got 1 = .ok (.iconst 0, 1) := by decide +kernel
theorem dLW_got_2 : decode cLW_got 2 = .ok (.aload_n 0, 1) := by decide +kernel
theorem dLW_got_3 : decode cLW_got 3 = .ok (.iload_n 1, 1) := by decide +kernel
theorem dLW_got_4 : decode cLW_got 4 = .ok (.iload_n 2, 1) := by decide +kernel
theorem dLW_got_5 : decode cLW_got 5 = .ok (.invokevirtual 40, 3) := by decide +kernel
theorem dLW_got_8 : decode cLW_got 8 = .ok (.i2l, 1) := by decide +kernel
theorem dLW_got_9 : decode cLW_got 9 = .ok (.lastore, 1) := by decide +kernel
theorem dLW_got_10 : decode cLW_got 10 = .ok (.goto 7, 3) := by decide +kernel
theorem dLW_got_13 : decode cLW_got 13 = .ok (.astore 4, 2) := by decide +kernel
theorem dLW_got_15 : decode cLW_got 15 = .ok (.iconst 1, 1) := by decide +kernel
theorem dLW_got_16 : decode cLW_got 16 = .ok (.ireturn, 1) := by decide +kernel
theorem dLW_got_17 : decode cLW_got 17 = .ok (.iconst 0, 1) := by decide +kernel
theorem dLW_got_18 : decode cLW_got 18 = .ok (.ireturn, 1) := by decide +kernel
abbrev cLW_told : ByteArray := method_11_code
abbrev yLW_told : MethodName := ⟨"PacketRowsLaw", "told", "(LPacketRows;I[J)I"⟩
abbrev wsLW_told : List Cond := .codeWith yLW_told cLW_told 4 (some .int) [(0, 9, 12, 13)] :: uU
theorem dLW_told_0 : decode cLW_told 0 = .ok (.aload_n 2, 1) := by decide +kernel
theorem dLW_told_1 : decode cLW_told 1 = .ok (.iconst 0, 1) := by decide +kernel
theorem dLW_told_2 : decode cLW_told 2 = .ok (.aload_n 0, 1) := by decide +kernel
theorem dLW_told_3 : decode cLW_told 3 = .ok (.iload_n 1, 1) := by decide +kernel
theorem dLW_told_4 : decode cLW_told 4 = .ok (.invokevirtual 43, 3) := by decide +kernel
theorem dLW_told_7 : decode cLW_told 7 = .ok (.i2l, 1) := by decide +kernel
theorem dLW_told_8 : decode cLW_told 8 = .ok (.lastore, 1) := by decide +kernel
theorem dLW_told_9 : decode cLW_told 9 = .ok (.goto 6, 3) := by decide +kernel
theorem dLW_told_12 : decode cLW_told 12 = .ok (.astore_n 3, 1) := by decide +kernel
theorem dLW_told_13 : decode cLW_told 13 = .ok (.iconst 1, 1) := by decide +kernel
theorem dLW_told_14 : decode cLW_told 14 = .ok (.ireturn, 1) := by decide +kernel
theorem dLW_told_15 : decode cLW_told 15 = .ok (.iconst 0, 1) := by decide +kernel
theorem dLW_told_16 : decode cLW_told 16 = .ok (.ireturn, 1) := by decide +kernel

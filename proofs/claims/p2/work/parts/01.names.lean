/-- the words that hold in every later state too -/
def uU : List Cond := lw_tbl.filter goodWord
theorem uM {w : Cond} (i : Nat) (h : lw_tbl[i]? = some w) (hg : goodWord w = true) : w ∈ uU := List.mem_filter.mpr ⟨List.mem_of_getElem? h, hg⟩
theorem hU {c0 : Cond} {args : Array Value} {s : State} (hts : ∀ w ∈ c0 :: uU, w.before args s = true) {w : Cond} (h : w ∈ uU) : w.before args s = true := hts w (List.mem_cons_of_mem _ h)
theorem uG {w : Cond} (h : w ∈ uU) : (w.onTables && w.keeps) = true ∨ ∃ ty, w = .arrayClass ty := good_of_word (List.mem_filter.mp h).2
theorem gU {c0 : Cond} {l : List Cond} (h : ∀ w ∈ l, w ∈ uU) : GoodIn (c0 :: uU) l := fun w hw => ⟨List.mem_cons_of_mem _ (h w hw), uG (h w hw)⟩
theorem gW {c1 : Cond} (h : c1 ∈ uU) : ∀ w ∈ c1 :: uU, w ∈ uU := fun w hw => (List.mem_cons.mp hw).elim (fun e => e ▸ h) id
theorem gV {c0 c1 : Cond} {own C : String} {idx : Nat} {y : MethodName} (h1 : Cond.methodLink own idx y ∈ uU) (h2 : Cond.instanceMethod y ∈ uU) (h3 : Cond.selects C y y ∈ uU) (h4 : Cond.initialized C ∈ uU) (h5 : c1 ∈ uU) : GoodIn (c0 :: uU) (wsV own idx C y (c1 :: uU)) := gU (fun w hw => by
  rcases List.mem_append.mp hw with h | h
  · simp only [List.mem_cons, List.not_mem_nil, or_false] at h
    rcases h with rfl | rfl | rfl | rfl <;> assumption
  · exact gW h5 w h)
theorem gS {c0 c1 : Cond} {own : String} {idx : Nat} {y : MethodName} (h1 : Cond.methodLink own idx y ∈ uU) (h2 : Cond.static y ∈ uU) (h4 : Cond.initialized y.cls ∈ uU) (h5 : c1 ∈ uU) : GoodIn (c0 :: uU) (va_wsS own idx y (c1 :: uU)) := gU (fun w hw => by
  rcases List.mem_append.mp hw with h | h
  · simp only [List.mem_cons, List.not_mem_nil, or_false] at h
    rcases h with rfl | rfl | rfl <;> assumption
  · exact gW h5 w h)
def TBR : u_T := fun k => match k with
  | 0 => ("PacketRows$ByteRow", "row", "[I", true)
  | _ => ("PacketRows$ByteRow", "size", "I", false)
def tyBR : Nat → FieldType := fun k => match k with
  | 0 => (.array .int)
  | _ => .int
theorem nmBR : ∀ a, a < 2 → ∀ b, b < 2 → a ≠ b → (TBR a).2.1 ≠ (TBR b).2.1 := by decide +kernel
theorem tyBR_ok : ∀ k, k < 2 → parseFieldDescriptor (TBR k).2.2.1 = some (tyBR k) := by decide +kernel
def THD : u_T := fun k => match k with
  | 0 => ("PacketRows$Heads", "picture", "LPacketRows$Picture;", true)
  | 1 => ("PacketRows$Heads", "order", "LPacketRows$Order;", true)
  | 2 => ("PacketRows$Heads", "parents", "[I", true)
  | 3 => ("PacketRows$Heads", "firsts", "LPacketRows$Tree;", true)
  | 4 => ("PacketRows$Heads", "zeros", "LPacketRows$Tree;", true)
  | 5 => ("PacketRows$Heads", "growths", "[I", true)
  | _ => ("PacketRows$Heads", "begun", "[Z", true)
def tyHD : Nat → FieldType := fun k => match k with
  | 0 => (.object "PacketRows$Picture")
  | 1 => (.object "PacketRows$Order")
  | 2 => (.array .int)
  | 3 => (.object "PacketRows$Tree")
  | 4 => (.object "PacketRows$Tree")
  | 5 => (.array .int)
  | _ => (.array .boolean)
theorem nmHD : ∀ a, a < 7 → ∀ b, b < 7 → a ≠ b → (THD a).2.1 ≠ (THD b).2.1 := by decide +kernel
theorem tyHD_ok : ∀ k, k < 7 → parseFieldDescriptor (THD k).2.2.1 = some (tyHD k) := by decide +kernel
def TOD : u_T := fun k => match k with
  | 0 => ("PacketRows$Order", "picture", "LPacketRows$Picture;", true)
  | 1 => ("PacketRows$Order", "partOrders", "[I", true)
  | 2 => ("PacketRows$Order", "partEnds", "[I", true)
  | 3 => ("PacketRows$Order", "places", "[I", true)
  | 4 => ("PacketRows$Order", "listed", "[Z", true)
  | 5 => ("PacketRows$Order", "ends", "[I", true)
  | 6 => ("PacketRows$Order", "at", "[I", true)
  | 7 => ("PacketRows$Order", "parts", "I", false)
  | _ => ("PacketRows$Order", "packets", "I", false)
def tyOD : Nat → FieldType := fun k => match k with
  | 0 => (.object "PacketRows$Picture")
  | 1 => (.array .int)
  | 2 => (.array .int)
  | 3 => (.array .int)
  | 4 => (.array .boolean)
  | 5 => (.array .int)
  | 6 => (.array .int)
  | 7 => .int
  | _ => .int
theorem nmOD : ∀ a, a < 9 → ∀ b, b < 9 → a ≠ b → (TOD a).2.1 ≠ (TOD b).2.1 := by decide +kernel
theorem tyOD_ok : ∀ k, k < 9 → parseFieldDescriptor (TOD k).2.2.1 = some (tyOD k) := by decide +kernel
def TPC : u_T := fun k => match k with
  | 0 => ("PacketRows$Picture", "layers", "I", true)
  | 1 => ("PacketRows$Picture", "resolutions", "I", true)
  | 2 => ("PacketRows$Picture", "bands", "[I", true)
  | 3 => ("PacketRows$Picture", "precincts", "[I", true)
  | 4 => ("PacketRows$Picture", "widths", "[I", true)
  | 5 => ("PacketRows$Picture", "heights", "[I", true)
  | 6 => ("PacketRows$Picture", "starts", "[I", true)
  | _ => ("PacketRows$Picture", "components", "I", false)
def tyPC : Nat → FieldType := fun k => match k with
  | 0 => .int
  | 1 => .int
  | 2 => (.array .int)
  | 3 => (.array .int)
  | 4 => (.array .int)
  | 5 => (.array .int)
  | 6 => (.array .int)
  | _ => .int
theorem nmPC : ∀ a, a < 8 → ∀ b, b < 8 → a ≠ b → (TPC a).2.1 ≠ (TPC b).2.1 := by decide +kernel
theorem tyPC_ok : ∀ k, k < 8 → parseFieldDescriptor (TPC k).2.2.1 = some (tyPC k) := by decide +kernel
def TRD : u_T := fun k => match k with
  | 0 => ("PacketRows$Bits", "fault", "I", false)
  | 1 => ("PacketRows$Reader", "byteRow", "LPacketRows$ByteRow;", true)
  | 2 => ("PacketRows$Reader", "reach", "I", false)
  | 3 => ("PacketRows$Reader", "current", "I", false)
  | _ => ("PacketRows$Reader", "left", "I", false)
def tyRD : Nat → FieldType := fun k => match k with
  | 0 => .int
  | 1 => (.object "PacketRows$ByteRow")
  | 2 => .int
  | 3 => .int
  | _ => .int
theorem nmRD : ∀ a, a < 5 → ∀ b, b < 5 → a ≠ b → (TRD a).2.1 ≠ (TRD b).2.1 := by decide +kernel
theorem tyRD_ok : ∀ k, k < 5 → parseFieldDescriptor (TRD k).2.2.1 = some (tyRD k) := by decide +kernel
def TRW : u_T := fun k => match k with
  | 0 => ("PacketRows$Rows", "layers", "I", true)
  | 1 => ("PacketRows$Rows", "passes", "[I", true)
  | 2 => ("PacketRows$Rows", "lengths", "[I", true)
  | _ => ("PacketRows$Rows", "zeros", "[I", true)
def tyRW : Nat → FieldType := fun k => match k with
  | 0 => .int
  | 1 => (.array .int)
  | 2 => (.array .int)
  | _ => (.array .int)
theorem nmRW : ∀ a, a < 4 → ∀ b, b < 4 → a ≠ b → (TRW a).2.1 ≠ (TRW b).2.1 := by decide +kernel
theorem tyRW_ok : ∀ k, k < 4 → parseFieldDescriptor (TRW k).2.2.1 = some (tyRW k) := by decide +kernel
def TTR : u_T := fun k => match k with
  | 0 => ("PacketRows$Tree", "parents", "[I", true)
  | 1 => ("PacketRows$Tree", "values", "[I", true)
  | 2 => ("PacketRows$Tree", "lows", "[I", true)
  | 3 => ("PacketRows$Tree", "done", "[Z", true)
  | _ => ("PacketRows$Tree", "path", "[I", true)
def tyTR : Nat → FieldType := fun k => match k with
  | 0 => (.array .int)
  | 1 => (.array .int)
  | 2 => (.array .int)
  | 3 => (.array .boolean)
  | _ => (.array .int)
theorem nmTR : ∀ a, a < 5 → ∀ b, b < 5 → a ≠ b → (TTR a).2.1 ≠ (TTR b).2.1 := by decide +kernel
theorem tyTR_ok : ∀ k, k < 5 → parseFieldDescriptor (TTR k).2.2.1 = some (tyTR k) := by decide +kernel
def TWR : u_T := fun k => match k with
  | 0 => ("PacketRows$Bits", "fault", "I", false)
  | 1 => ("PacketRows$Writer", "byteRow", "LPacketRows$ByteRow;", true)
  | 2 => ("PacketRows$Writer", "begins", "[I", true)
  | 3 => ("PacketRows$Writer", "size", "I", false)
  | 4 => ("PacketRows$Writer", "measuring", "Z", false)
  | 5 => ("PacketRows$Writer", "current", "I", false)
  | _ => ("PacketRows$Writer", "free", "I", false)
def tyWR : Nat → FieldType := fun k => match k with
  | 0 => .int
  | 1 => (.object "PacketRows$ByteRow")
  | 2 => (.array .int)
  | 3 => .int
  | 4 => .boolean
  | 5 => .int
  | _ => .int
theorem nmWR : ∀ a, a < 7 → ∀ b, b < 7 → a ≠ b → (TWR a).2.1 ≠ (TWR b).2.1 := by decide +kernel
theorem tyWR_ok : ∀ k, k < 7 → parseFieldDescriptor (TWR k).2.2.1 = some (tyWR k) := by decide +kernel
def TPR : u_T := fun k => match k with
  | 0 => ("PacketRows", "picture", "LPacketRows$Picture;", true)
  | 1 => ("PacketRows", "toldRows", "LPacketRows$Rows;", true)
  | 2 => ("PacketRows", "readRows", "LPacketRows$Rows;", true)
  | 3 => ("PacketRows", "packetOrder", "LPacketRows$Order;", true)
  | 4 => ("PacketRows", "byteRow", "LPacketRows$ByteRow;", true)
  | 5 => ("PacketRows", "writer", "LPacketRows$Writer;", true)
  | 6 => ("PacketRows", "reader", "LPacketRows$Reader;", true)
  | 7 => ("PacketRows", "heads", "LPacketRows$Heads;", true)
  | 8 => ("PacketRows", "chosenSlot", "I", false)
  | 9 => ("PacketRows", "chosenOffset", "I", false)
  | 10 => ("PacketRows", "writtenAsTold", "Z", false)
  | 11 => ("PacketRows", "lastFault", "I", false)
  | _ => ("PacketRows", "lastReach", "I", false)
def tyPR : Nat → FieldType := fun k => match k with
  | 0 => (.object "PacketRows$Picture")
  | 1 => (.object "PacketRows$Rows")
  | 2 => (.object "PacketRows$Rows")
  | 3 => (.object "PacketRows$Order")
  | 4 => (.object "PacketRows$ByteRow")
  | 5 => (.object "PacketRows$Writer")
  | 6 => (.object "PacketRows$Reader")
  | 7 => (.object "PacketRows$Heads")
  | 8 => .int
  | 9 => .int
  | 10 => .boolean
  | 11 => .int
  | _ => .int
theorem nmPR : ∀ a, a < 13 → ∀ b, b < 13 → a ≠ b → (TPR a).2.1 ≠ (TPR b).2.1 := by decide +kernel
theorem tyPR_ok : ∀ k, k < 13 → parseFieldDescriptor (TPR k).2.2.1 = some (tyPR k) := by decide +kernel
def TMO : u_T := fun k => match k with
  | 0 => ("PacketRowsModel", "thrown", "I", false)
  | 1 => ("PacketRowsModel", "layers", "I", true)
  | 2 => ("PacketRowsModel", "resolutions", "I", true)
  | 3 => ("PacketRowsModel", "components", "I", false)
  | 4 => ("PacketRowsModel", "precincts", "[I", true)
  | 5 => ("PacketRowsModel", "wides", "[I", true)
  | 6 => ("PacketRowsModel", "highs", "[I", true)
  | 7 => ("PacketRowsModel", "zeros", "[I", true)
  | 8 => ("PacketRowsModel", "passes", "[I", true)
  | 9 => ("PacketRowsModel", "lengths", "[I", true)
  | 10 => ("PacketRowsModel", "readZeros", "[I", true)
  | 11 => ("PacketRowsModel", "readFirsts", "[I", true)
  | 12 => ("PacketRowsModel", "readPasses", "[I", true)
  | 13 => ("PacketRowsModel", "readLengths", "[I", true)
  | 14 => ("PacketRowsModel", "chosen", "I", false)
  | 15 => ("PacketRowsModel", "parts", "I", false)
  | 16 => ("PacketRowsModel", "partRows", "[I", true)
  | 17 => ("PacketRowsModel", "many", "I", false)
  | 18 => ("PacketRowsModel", "rows", "[I", true)
  | 19 => ("PacketRowsModel", "had", "[Z", true)
  | 20 => ("PacketRowsModel", "fresh", "Z", false)
  | 21 => ("PacketRowsModel", "begins", "[I", true)
  | 22 => ("PacketRowsModel", "size", "I", false)
  | 23 => ("PacketRowsModel", "bytes", "[I", true)
  | 24 => ("PacketRowsModel", "fault", "I", false)
  | 25 => ("PacketRowsModel", "over", "I", false)
  | 26 => ("PacketRowsModel", "reads", "Z", false)
  | 27 => ("PacketRowsModel", "grown", "[I", true)
  | 28 => ("PacketRowsModel", "lows", "[I", true)
  | 29 => ("PacketRowsModel", "dones", "[Z", true)
  | 30 => ("PacketRowsModel", "drafted", "I", false)
  | 31 => ("PacketRowsModel", "draft", "[I", true)
  | 32 => ("PacketRowsModel", "at", "I", false)
  | 33 => ("PacketRowsModel", "left", "I", false)
  | 34 => ("PacketRowsModel", "now", "I", false)
  | 35 => ("PacketRowsModel", "last", "I", false)
  | 36 => ("PacketRowsModel", "ends", "[I", true)
  | 37 => ("PacketRowsModel", "turn", "[I", true)
  | _ => ("PacketRowsModel", "draftAt", "[I", true)
def tyMO : Nat → FieldType := fun k => match k with
  | 0 => .int
  | 1 => .int
  | 2 => .int
  | 3 => .int
  | 4 => (.array .int)
  | 5 => (.array .int)
  | 6 => (.array .int)
  | 7 => (.array .int)
  | 8 => (.array .int)
  | 9 => (.array .int)
  | 10 => (.array .int)
  | 11 => (.array .int)
  | 12 => (.array .int)
  | 13 => (.array .int)
  | 14 => .int
  | 15 => .int
  | 16 => (.array .int)
  | 17 => .int
  | 18 => (.array .int)
  | 19 => (.array .boolean)
  | 20 => .boolean
  | 21 => (.array .int)
  | 22 => .int
  | 23 => (.array .int)
  | 24 => .int
  | 25 => .int
  | 26 => .boolean
  | 27 => (.array .int)
  | 28 => (.array .int)
  | 29 => (.array .boolean)
  | 30 => .int
  | 31 => (.array .int)
  | 32 => .int
  | 33 => .int
  | 34 => .int
  | 35 => .int
  | 36 => (.array .int)
  | 37 => (.array .int)
  | _ => (.array .int)
theorem nmMO : ∀ a, a < 39 → ∀ b, b < 39 → a ≠ b → (TMO a).2.1 ≠ (TMO b).2.1 := by decide +kernel
theorem tyMO_ok : ∀ k, k < 39 → parseFieldDescriptor (TMO k).2.2.1 = some (tyMO k) := by decide +kernel
abbrev vwCl : List vw_C := [("PacketRows$ByteRow", TBR, 2), ("PacketRows$Heads", THD, 7), ("PacketRows$Order", TOD, 9), ("PacketRows$Picture", TPC, 8), ("PacketRows$Reader", TRD, 5), ("PacketRows$Rows", TRW, 4), ("PacketRows$Tree", TTR, 5), ("PacketRows$Writer", TWR, 7), ("PacketRows", TPR, 13), ("PacketRowsModel", TMO, 39)]
theorem u_0 : Cond.selects "PacketRows$Picture" ⟨"PacketRows$Picture", "numberBlocks", "()V"⟩ ⟨"PacketRows$Picture", "numberBlocks", "()V"⟩ ∈ uU := uM 0 (by decide +kernel) (by decide +kernel)
theorem u_40 : Cond.initialized "PacketRows" ∈ uU := uM 40 (by decide +kernel) (by decide +kernel)
theorem u_41 : Cond.initialized "PacketRows$Picture" ∈ uU := uM 41 (by decide +kernel) (by decide +kernel)
theorem u_42 : Cond.initialized "java/lang/Math" ∈ uU := uM 42 (by decide +kernel) (by decide +kernel)
theorem u_43 : Cond.initialized "PacketRows$Rows" ∈ uU := uM 43 (by decide +kernel) (by decide +kernel)
theorem u_47 : Cond.initialized "PacketRows$Writer" ∈ uU := uM 47 (by decide +kernel) (by decide +kernel)
theorem u_48 : Cond.initialized "PacketRows$Reader" ∈ uU := uM 48 (by decide +kernel) (by decide +kernel)
theorem u_82 : Cond.static ⟨"java/lang/Math", "min", "(II)I"⟩ ∈ uU := uM 82 (by decide +kernel) (by decide +kernel)
theorem u_83 : Cond.code ⟨"java/lang/Math", "min", "(II)I"⟩ prog_20_method_69_code 2 (Option.some Jvm.ClassFile.FieldType.int) ∈ uU := uM 83 (by decide +kernel) (by decide +kernel)
theorem u_95 : Cond.methodLink "PacketRows$Picture" 50 ⟨"PacketRows$Picture", "slots", "()I"⟩ ∈ uU := uM 95 (by decide +kernel) (by decide +kernel)
theorem u_96 : Cond.instanceMethod ⟨"PacketRows$Picture", "slots", "()I"⟩ ∈ uU := uM 96 (by decide +kernel) (by decide +kernel)
theorem u_97 : Cond.selects "PacketRows$Picture" ⟨"PacketRows$Picture", "slots", "()I"⟩ ⟨"PacketRows$Picture", "slots", "()I"⟩ ∈ uU := uM 97 (by decide +kernel) (by decide +kernel)
theorem u_98 : Cond.code ⟨"PacketRows$Picture", "slots", "()I"⟩ prog_6_method_4_code 1 (Option.some Jvm.ClassFile.FieldType.int) ∈ uU := uM 98 (by decide +kernel) (by decide +kernel)
theorem u_99 : Cond.methodLink "PacketRows$Picture" 58 ⟨"PacketRows$Picture", "numberBlocks", "()V"⟩ ∈ uU := uM 99 (by decide +kernel) (by decide +kernel)
theorem u_101 : Cond.instanceMethod ⟨"PacketRows$Picture", "numberBlocks", "()V"⟩ ∈ uU := uM 101 (by decide +kernel) (by decide +kernel)
theorem u_102 : Cond.code ⟨"PacketRows$Picture", "numberBlocks", "()V"⟩ prog_6_method_12_code 2 (Option.none : Option Jvm.ClassFile.FieldType) ∈ uU := uM 102 (by decide +kernel) (by decide +kernel)
theorem u_103 : Cond.methodLink "PacketRows$Picture" 61 ⟨"PacketRows$Picture", "slotSize", "(I)I"⟩ ∈ uU := uM 103 (by decide +kernel) (by decide +kernel)
theorem u_104 : Cond.instanceMethod ⟨"PacketRows$Picture", "slotSize", "(I)I"⟩ ∈ uU := uM 104 (by decide +kernel) (by decide +kernel)
theorem u_105 : Cond.selects "PacketRows$Picture" ⟨"PacketRows$Picture", "slotSize", "(I)I"⟩ ⟨"PacketRows$Picture", "slotSize", "(I)I"⟩ ∈ uU := uM 105 (by decide +kernel) (by decide +kernel)
theorem u_106 : Cond.code ⟨"PacketRows$Picture", "slotSize", "(I)I"⟩ prog_6_method_8_code 2 (Option.some Jvm.ClassFile.FieldType.int) ∈ uU := uM 106 (by decide +kernel) (by decide +kernel)
theorem u_107 : Cond.methodLink "PacketRows$Picture" 54 ⟨"PacketRows$Picture", "bandSize", "(I)I"⟩ ∈ uU := uM 107 (by decide +kernel) (by decide +kernel)
theorem u_108 : Cond.instanceMethod ⟨"PacketRows$Picture", "bandSize", "(I)I"⟩ ∈ uU := uM 108 (by decide +kernel) (by decide +kernel)
theorem u_109 : Cond.selects "PacketRows$Picture" ⟨"PacketRows$Picture", "bandSize", "(I)I"⟩ ⟨"PacketRows$Picture", "bandSize", "(I)I"⟩ ∈ uU := uM 109 (by decide +kernel) (by decide +kernel)
theorem u_110 : Cond.code ⟨"PacketRows$Picture", "bandSize", "(I)I"⟩ prog_6_method_7_code 2 (Option.some Jvm.ClassFile.FieldType.int) ∈ uU := uM 110 (by decide +kernel) (by decide +kernel)
theorem u_111 : Cond.fieldLink "PacketRows$Picture" 9 "PacketRows$Picture" "layers" "I" ∈ uU := uM 111 (by decide +kernel) (by decide +kernel)
theorem u_114 : Cond.fieldLink "PacketRows$Picture" 15 "PacketRows$Picture" "resolutions" "I" ∈ uU := uM 114 (by decide +kernel) (by decide +kernel)
theorem u_117 : Cond.fieldLink "PacketRows$Picture" 18 "PacketRows$Picture" "bands" "[I" ∈ uU := uM 117 (by decide +kernel) (by decide +kernel)
theorem u_120 : Cond.fieldLink "PacketRows$Picture" 22 "PacketRows$Picture" "precincts" "[I" ∈ uU := uM 120 (by decide +kernel) (by decide +kernel)
theorem u_123 : Cond.fieldLink "PacketRows$Picture" 25 "PacketRows$Picture" "widths" "[I" ∈ uU := uM 123 (by decide +kernel) (by decide +kernel)
theorem u_125 : Cond.fieldLink "PacketRows$Picture" 28 "PacketRows$Picture" "heights" "[I" ∈ uU := uM 125 (by decide +kernel) (by decide +kernel)
theorem u_127 : Cond.fieldLink "PacketRows$Picture" 31 "PacketRows$Picture" "starts" "[I" ∈ uU := uM 127 (by decide +kernel) (by decide +kernel)
theorem u_131 : Cond.fieldLink "PacketRows$Picture" 43 "PacketRows$Picture" "components" "I" ∈ uU := uM 131 (by decide +kernel) (by decide +kernel)
theorem u_133 : Cond.laysFinal "PacketRows$Picture" "PacketRows$Picture" "layers" "I" ∈ uU := uM 133 (by decide +kernel) (by decide +kernel)
theorem u_135 : Cond.laysFinal "PacketRows$Picture" "PacketRows$Picture" "resolutions" "I" ∈ uU := uM 135 (by decide +kernel) (by decide +kernel)
theorem u_137 : Cond.laysFinal "PacketRows$Picture" "PacketRows$Picture" "bands" "[I" ∈ uU := uM 137 (by decide +kernel) (by decide +kernel)
theorem u_139 : Cond.laysFinal "PacketRows$Picture" "PacketRows$Picture" "precincts" "[I" ∈ uU := uM 139 (by decide +kernel) (by decide +kernel)
theorem u_141 : Cond.laysFinal "PacketRows$Picture" "PacketRows$Picture" "widths" "[I" ∈ uU := uM 141 (by decide +kernel) (by decide +kernel)
theorem u_143 : Cond.laysFinal "PacketRows$Picture" "PacketRows$Picture" "heights" "[I" ∈ uU := uM 143 (by decide +kernel) (by decide +kernel)
theorem u_145 : Cond.laysFinal "PacketRows$Picture" "PacketRows$Picture" "starts" "[I" ∈ uU := uM 145 (by decide +kernel) (by decide +kernel)
theorem u_147 : Cond.lays "PacketRows$Picture" "PacketRows$Picture" "components" "I" ∈ uU := uM 147 (by decide +kernel) (by decide +kernel)
theorem u_157 : Cond.methodLink "PacketRows$Picture" 37 ⟨"java/lang/Math", "min", "(II)I"⟩ ∈ uU := uM 157 (by decide +kernel) (by decide +kernel)
theorem u_162 : Cond.fieldLink "PacketRows$Rows" 7 "PacketRows$Rows" "layers" "I" ∈ uU := uM 162 (by decide +kernel) (by decide +kernel)
theorem u_163 : Cond.fieldLink "PacketRows$Rows" 13 "PacketRows$Rows" "passes" "[I" ∈ uU := uM 163 (by decide +kernel) (by decide +kernel)
theorem u_164 : Cond.fieldLink "PacketRows$Rows" 17 "PacketRows$Rows" "lengths" "[I" ∈ uU := uM 164 (by decide +kernel) (by decide +kernel)
theorem u_168 : Cond.laysFinal "PacketRows$Rows" "PacketRows$Rows" "layers" "I" ∈ uU := uM 168 (by decide +kernel) (by decide +kernel)
theorem u_170 : Cond.laysFinal "PacketRows$Rows" "PacketRows$Rows" "passes" "[I" ∈ uU := uM 170 (by decide +kernel) (by decide +kernel)
theorem u_172 : Cond.laysFinal "PacketRows$Rows" "PacketRows$Rows" "lengths" "[I" ∈ uU := uM 172 (by decide +kernel) (by decide +kernel)
theorem u_174 : Cond.laysFinal "PacketRows$Rows" "PacketRows$Rows" "zeros" "[I" ∈ uU := uM 174 (by decide +kernel) (by decide +kernel)
theorem u_188 : Cond.fieldLink "PacketRows$Order" 9 "PacketRows$Order" "partOrders" "[I" ∈ uU := uM 188 (by decide +kernel) (by decide +kernel)
theorem u_189 : Cond.fieldLink "PacketRows$Order" 15 "PacketRows$Order" "partEnds" "[I" ∈ uU := uM 189 (by decide +kernel) (by decide +kernel)
theorem u_190 : Cond.fieldLink "PacketRows$Order" 34 "PacketRows$Order" "places" "[I" ∈ uU := uM 190 (by decide +kernel) (by decide +kernel)
theorem u_194 : Cond.fieldLink "PacketRows$Order" 41 "PacketRows$Order" "parts" "I" ∈ uU := uM 194 (by decide +kernel) (by decide +kernel)
theorem u_199 : Cond.laysFinal "PacketRows$Order" "PacketRows$Order" "picture" "LPacketRows$Picture;" ∈ uU := uM 199 (by decide +kernel) (by decide +kernel)
theorem u_201 : Cond.laysFinal "PacketRows$Order" "PacketRows$Order" "partOrders" "[I" ∈ uU := uM 201 (by decide +kernel) (by decide +kernel)
theorem u_203 : Cond.laysFinal "PacketRows$Order" "PacketRows$Order" "partEnds" "[I" ∈ uU := uM 203 (by decide +kernel) (by decide +kernel)
theorem u_205 : Cond.laysFinal "PacketRows$Order" "PacketRows$Order" "places" "[I" ∈ uU := uM 205 (by decide +kernel) (by decide +kernel)
theorem u_207 : Cond.laysFinal "PacketRows$Order" "PacketRows$Order" "listed" "[Z" ∈ uU := uM 207 (by decide +kernel) (by decide +kernel)
theorem u_209 : Cond.laysFinal "PacketRows$Order" "PacketRows$Order" "ends" "[I" ∈ uU := uM 209 (by decide +kernel) (by decide +kernel)
theorem u_211 : Cond.laysFinal "PacketRows$Order" "PacketRows$Order" "at" "[I" ∈ uU := uM 211 (by decide +kernel) (by decide +kernel)
theorem u_213 : Cond.lays "PacketRows$Order" "PacketRows$Order" "parts" "I" ∈ uU := uM 213 (by decide +kernel) (by decide +kernel)
theorem u_215 : Cond.lays "PacketRows$Order" "PacketRows$Order" "packets" "I" ∈ uU := uM 215 (by decide +kernel) (by decide +kernel)
theorem u_225 : Cond.fieldLink "PacketRows$ByteRow" 9 "PacketRows$ByteRow" "row" "[I" ∈ uU := uM 225 (by decide +kernel) (by decide +kernel)
theorem u_226 : Cond.fieldLink "PacketRows$Reader" 33 "PacketRows$ByteRow" "row" "[I" ∈ uU := uM 226 (by decide +kernel) (by decide +kernel)
theorem u_227 : Cond.fieldLink "PacketRows$Writer" 33 "PacketRows$ByteRow" "row" "[I" ∈ uU := uM 227 (by decide +kernel) (by decide +kernel)
theorem u_228 : Cond.fieldLink "PacketRows$ByteRow" 15 "PacketRows$ByteRow" "size" "I" ∈ uU := uM 228 (by decide +kernel) (by decide +kernel)
theorem u_229 : Cond.fieldLink "PacketRows$Reader" 28 "PacketRows$ByteRow" "size" "I" ∈ uU := uM 229 (by decide +kernel) (by decide +kernel)
theorem u_231 : Cond.laysFinal "PacketRows$ByteRow" "PacketRows$ByteRow" "row" "[I" ∈ uU := uM 231 (by decide +kernel) (by decide +kernel)
theorem u_233 : Cond.lays "PacketRows$ByteRow" "PacketRows$ByteRow" "size" "I" ∈ uU := uM 233 (by decide +kernel) (by decide +kernel)
theorem u_246 : Cond.fieldLink "PacketRows$Writer" 9 "PacketRows$Writer" "byteRow" "LPacketRows$ByteRow;" ∈ uU := uM 246 (by decide +kernel) (by decide +kernel)
theorem u_247 : Cond.fieldLink "PacketRows$Writer" 15 "PacketRows$Writer" "begins" "[I" ∈ uU := uM 247 (by decide +kernel) (by decide +kernel)
theorem u_249 : Cond.fieldLink "PacketRows$Writer" 23 "PacketRows$Writer" "size" "I" ∈ uU := uM 249 (by decide +kernel) (by decide +kernel)
theorem u_251 : Cond.fieldLink "PacketRows$Writer" 19 "PacketRows$Writer" "measuring" "Z" ∈ uU := uM 251 (by decide +kernel) (by decide +kernel)
theorem u_252 : Cond.fieldLink "PacketRows$Writer" 27 "PacketRows$Writer" "current" "I" ∈ uU := uM 252 (by decide +kernel) (by decide +kernel)
theorem u_253 : Cond.fieldLink "PacketRows$Writer" 30 "PacketRows$Writer" "free" "I" ∈ uU := uM 253 (by decide +kernel) (by decide +kernel)
theorem u_254 : Cond.fieldLink "PacketRows$Reader" 15 "PacketRows$Reader" "fault" "I" ∈ uU := uM 254 (by decide +kernel) (by decide +kernel)
theorem u_255 : Cond.sameField "PacketRows$Reader" "PacketRows$Bits" "fault" "I" ∈ uU := uM 255 (by decide +kernel) (by decide +kernel)
theorem u_257 : Cond.fieldLink "PacketRows$Bits" 7 "PacketRows$Bits" "fault" "I" ∈ uU := uM 257 (by decide +kernel) (by decide +kernel)
theorem u_259 : Cond.laysFinal "PacketRows$Writer" "PacketRows$Writer" "byteRow" "LPacketRows$ByteRow;" ∈ uU := uM 259 (by decide +kernel) (by decide +kernel)
theorem u_261 : Cond.laysFinal "PacketRows$Writer" "PacketRows$Writer" "begins" "[I" ∈ uU := uM 261 (by decide +kernel) (by decide +kernel)
theorem u_263 : Cond.lays "PacketRows$Writer" "PacketRows$Writer" "size" "I" ∈ uU := uM 263 (by decide +kernel) (by decide +kernel)
theorem u_265 : Cond.lays "PacketRows$Writer" "PacketRows$Writer" "measuring" "Z" ∈ uU := uM 265 (by decide +kernel) (by decide +kernel)
theorem u_267 : Cond.lays "PacketRows$Writer" "PacketRows$Writer" "current" "I" ∈ uU := uM 267 (by decide +kernel) (by decide +kernel)
theorem u_269 : Cond.lays "PacketRows$Writer" "PacketRows$Writer" "free" "I" ∈ uU := uM 269 (by decide +kernel) (by decide +kernel)
theorem u_271 : Cond.lays "PacketRows$Writer" "PacketRows$Bits" "fault" "I" ∈ uU := uM 271 (by decide +kernel) (by decide +kernel)
theorem u_280 : Cond.fieldLink "PacketRows$Reader" 9 "PacketRows$Reader" "byteRow" "LPacketRows$ByteRow;" ∈ uU := uM 280 (by decide +kernel) (by decide +kernel)
theorem u_281 : Cond.fieldLink "PacketRows$Reader" 19 "PacketRows$Reader" "reach" "I" ∈ uU := uM 281 (by decide +kernel) (by decide +kernel)
theorem u_283 : Cond.fieldLink "PacketRows$Reader" 22 "PacketRows$Reader" "current" "I" ∈ uU := uM 283 (by decide +kernel) (by decide +kernel)
theorem u_284 : Cond.fieldLink "PacketRows$Reader" 25 "PacketRows$Reader" "left" "I" ∈ uU := uM 284 (by decide +kernel) (by decide +kernel)
theorem u_285 : Cond.laysFinal "PacketRows$Reader" "PacketRows$Reader" "byteRow" "LPacketRows$ByteRow;" ∈ uU := uM 285 (by decide +kernel) (by decide +kernel)
theorem u_287 : Cond.lays "PacketRows$Reader" "PacketRows$Reader" "reach" "I" ∈ uU := uM 287 (by decide +kernel) (by decide +kernel)
theorem u_289 : Cond.lays "PacketRows$Reader" "PacketRows$Reader" "current" "I" ∈ uU := uM 289 (by decide +kernel) (by decide +kernel)
theorem u_291 : Cond.lays "PacketRows$Reader" "PacketRows$Reader" "left" "I" ∈ uU := uM 291 (by decide +kernel) (by decide +kernel)
theorem u_293 : Cond.lays "PacketRows$Reader" "PacketRows$Bits" "fault" "I" ∈ uU := uM 293 (by decide +kernel) (by decide +kernel)
theorem u_308 : Cond.fieldLink "PacketRows$Tree" 15 "PacketRows$Tree" "parents" "[I" ∈ uU := uM 308 (by decide +kernel) (by decide +kernel)
theorem u_309 : Cond.fieldLink "PacketRows$Tree" 18 "PacketRows$Tree" "values" "[I" ∈ uU := uM 309 (by decide +kernel) (by decide +kernel)
theorem u_310 : Cond.fieldLink "PacketRows$Tree" 21 "PacketRows$Tree" "lows" "[I" ∈ uU := uM 310 (by decide +kernel) (by decide +kernel)
theorem u_311 : Cond.fieldLink "PacketRows$Tree" 24 "PacketRows$Tree" "done" "[Z" ∈ uU := uM 311 (by decide +kernel) (by decide +kernel)
theorem u_313 : Cond.laysFinal "PacketRows$Tree" "PacketRows$Tree" "parents" "[I" ∈ uU := uM 313 (by decide +kernel) (by decide +kernel)
theorem u_315 : Cond.laysFinal "PacketRows$Tree" "PacketRows$Tree" "values" "[I" ∈ uU := uM 315 (by decide +kernel) (by decide +kernel)
theorem u_317 : Cond.laysFinal "PacketRows$Tree" "PacketRows$Tree" "lows" "[I" ∈ uU := uM 317 (by decide +kernel) (by decide +kernel)
theorem u_319 : Cond.laysFinal "PacketRows$Tree" "PacketRows$Tree" "done" "[Z" ∈ uU := uM 319 (by decide +kernel) (by decide +kernel)
theorem u_321 : Cond.laysFinal "PacketRows$Tree" "PacketRows$Tree" "path" "[I" ∈ uU := uM 321 (by decide +kernel) (by decide +kernel)
theorem u_331 : Cond.laysFinal "PacketRows$Heads" "PacketRows$Heads" "picture" "LPacketRows$Picture;" ∈ uU := uM 331 (by decide +kernel) (by decide +kernel)
theorem u_333 : Cond.laysFinal "PacketRows$Heads" "PacketRows$Heads" "order" "LPacketRows$Order;" ∈ uU := uM 333 (by decide +kernel) (by decide +kernel)
theorem u_335 : Cond.laysFinal "PacketRows$Heads" "PacketRows$Heads" "parents" "[I" ∈ uU := uM 335 (by decide +kernel) (by decide +kernel)
theorem u_337 : Cond.laysFinal "PacketRows$Heads" "PacketRows$Heads" "firsts" "LPacketRows$Tree;" ∈ uU := uM 337 (by decide +kernel) (by decide +kernel)
theorem u_339 : Cond.laysFinal "PacketRows$Heads" "PacketRows$Heads" "zeros" "LPacketRows$Tree;" ∈ uU := uM 339 (by decide +kernel) (by decide +kernel)
theorem u_341 : Cond.laysFinal "PacketRows$Heads" "PacketRows$Heads" "growths" "[I" ∈ uU := uM 341 (by decide +kernel) (by decide +kernel)
theorem u_343 : Cond.laysFinal "PacketRows$Heads" "PacketRows$Heads" "begun" "[Z" ∈ uU := uM 343 (by decide +kernel) (by decide +kernel)
theorem u_378 : Cond.laysFinal "PacketRows" "PacketRows" "picture" "LPacketRows$Picture;" ∈ uU := uM 378 (by decide +kernel) (by decide +kernel)
theorem u_380 : Cond.laysFinal "PacketRows" "PacketRows" "toldRows" "LPacketRows$Rows;" ∈ uU := uM 380 (by decide +kernel) (by decide +kernel)
theorem u_382 : Cond.laysFinal "PacketRows" "PacketRows" "readRows" "LPacketRows$Rows;" ∈ uU := uM 382 (by decide +kernel) (by decide +kernel)
theorem u_384 : Cond.laysFinal "PacketRows" "PacketRows" "packetOrder" "LPacketRows$Order;" ∈ uU := uM 384 (by decide +kernel) (by decide +kernel)
theorem u_386 : Cond.laysFinal "PacketRows" "PacketRows" "byteRow" "LPacketRows$ByteRow;" ∈ uU := uM 386 (by decide +kernel) (by decide +kernel)
theorem u_388 : Cond.laysFinal "PacketRows" "PacketRows" "writer" "LPacketRows$Writer;" ∈ uU := uM 388 (by decide +kernel) (by decide +kernel)
theorem u_390 : Cond.laysFinal "PacketRows" "PacketRows" "reader" "LPacketRows$Reader;" ∈ uU := uM 390 (by decide +kernel) (by decide +kernel)
theorem u_392 : Cond.laysFinal "PacketRows" "PacketRows" "heads" "LPacketRows$Heads;" ∈ uU := uM 392 (by decide +kernel) (by decide +kernel)
theorem u_394 : Cond.lays "PacketRows" "PacketRows" "chosenSlot" "I" ∈ uU := uM 394 (by decide +kernel) (by decide +kernel)
theorem u_396 : Cond.lays "PacketRows" "PacketRows" "chosenOffset" "I" ∈ uU := uM 396 (by decide +kernel) (by decide +kernel)
theorem u_398 : Cond.lays "PacketRows" "PacketRows" "writtenAsTold" "Z" ∈ uU := uM 398 (by decide +kernel) (by decide +kernel)
theorem u_400 : Cond.lays "PacketRows" "PacketRows" "lastFault" "I" ∈ uU := uM 400 (by decide +kernel) (by decide +kernel)
theorem u_402 : Cond.lays "PacketRows" "PacketRows" "lastReach" "I" ∈ uU := uM 402 (by decide +kernel) (by decide +kernel)
theorem u_806 : Cond.methodLink "PacketRows$Rows" 23 ⟨"PacketRows$Rows", "passesOf", "(II)I"⟩ ∈ uU := uM 806 (by decide +kernel) (by decide +kernel)
theorem u_807 : Cond.instanceMethod ⟨"PacketRows$Rows", "passesOf", "(II)I"⟩ ∈ uU := uM 807 (by decide +kernel) (by decide +kernel)
theorem u_808 : Cond.selects "PacketRows$Rows" ⟨"PacketRows$Rows", "passesOf", "(II)I"⟩ ⟨"PacketRows$Rows", "passesOf", "(II)I"⟩ ∈ uU := uM 808 (by decide +kernel) (by decide +kernel)
theorem u_809 : Cond.code ⟨"PacketRows$Rows", "passesOf", "(II)I"⟩ prog_8_method_2_code 3 (Option.some Jvm.ClassFile.FieldType.int) ∈ uU := uM 809 (by decide +kernel) (by decide +kernel)
theorem u_818 : Cond.methodLink "PacketRows$Tree" 28 ⟨"java/lang/Math", "min", "(II)I"⟩ ∈ uU := uM 818 (by decide +kernel) (by decide +kernel)
theorem u_842 : Cond.sameMethod "PacketRows$Bits" "PacketRows$Bits" "bit" "(Z)Z" ∈ uU := uM 842 (by decide +kernel) (by decide +kernel)
theorem u_843 : Cond.selects "PacketRows$Reader" ⟨"PacketRows$Bits", "bit", "(Z)Z"⟩ ⟨"PacketRows$Reader", "bit", "(Z)Z"⟩ ∈ uU := uM 843 (by decide +kernel) (by decide +kernel)
theorem u_844 : Cond.instanceMethod ⟨"PacketRows$Reader", "bit", "(Z)Z"⟩ ∈ uU := uM 844 (by decide +kernel) (by decide +kernel)
theorem u_845 : Cond.code ⟨"PacketRows$Reader", "bit", "(Z)Z"⟩ prog_7_method_4_code 3 (Option.some Jvm.ClassFile.FieldType.boolean) ∈ uU := uM 845 (by decide +kernel) (by decide +kernel)
theorem u_846 : Cond.selects "PacketRows$Writer" ⟨"PacketRows$Bits", "bit", "(Z)Z"⟩ ⟨"PacketRows$Writer", "bit", "(Z)Z"⟩ ∈ uU := uM 846 (by decide +kernel) (by decide +kernel)
theorem u_847 : Cond.instanceMethod ⟨"PacketRows$Writer", "bit", "(Z)Z"⟩ ∈ uU := uM 847 (by decide +kernel) (by decide +kernel)
theorem u_848 : Cond.code ⟨"PacketRows$Writer", "bit", "(Z)Z"⟩ prog_10_method_4_code 2 (Option.some Jvm.ClassFile.FieldType.boolean) ∈ uU := uM 848 (by decide +kernel) (by decide +kernel)
theorem u_880 : Cond.methodLink "PacketRows$Bits" 13 ⟨"PacketRows$Bits", "bit", "(Z)Z"⟩ ∈ uU := uM 880 (by decide +kernel) (by decide +kernel)
theorem u_902 : Cond.methodLink "PacketRows$Reader" 37 ⟨"PacketRows$Reader", "bit", "(Z)Z"⟩ ∈ uU := uM 902 (by decide +kernel) (by decide +kernel)
theorem u_906 : Cond.methodLink "PacketRows$Writer" 38 ⟨"PacketRows$Writer", "bit", "(Z)Z"⟩ ∈ uU := uM 906 (by decide +kernel) (by decide +kernel)
theorem u_920 : Cond.static ⟨"PacketRows", "isWithin", "(III)Z"⟩ ∈ uU := uM 920 (by decide +kernel) (by decide +kernel)
theorem u_921 : Cond.code ⟨"PacketRows", "isWithin", "(III)Z"⟩ prog_1_method_19_code 3 (Option.some Jvm.ClassFile.FieldType.boolean) ∈ uU := uM 921 (by decide +kernel) (by decide +kernel)
theorem u_1111 : Cond.lays "PacketRowsModel" "PacketRowsModel" "thrown" "I" ∈ uU := uM 1111 (by decide +kernel) (by decide +kernel)
theorem u_1113 : Cond.laysFinal "PacketRowsModel" "PacketRowsModel" "layers" "I" ∈ uU := uM 1113 (by decide +kernel) (by decide +kernel)
theorem u_1115 : Cond.laysFinal "PacketRowsModel" "PacketRowsModel" "resolutions" "I" ∈ uU := uM 1115 (by decide +kernel) (by decide +kernel)
theorem u_1117 : Cond.lays "PacketRowsModel" "PacketRowsModel" "components" "I" ∈ uU := uM 1117 (by decide +kernel) (by decide +kernel)
theorem u_1119 : Cond.laysFinal "PacketRowsModel" "PacketRowsModel" "precincts" "[I" ∈ uU := uM 1119 (by decide +kernel) (by decide +kernel)
theorem u_1121 : Cond.laysFinal "PacketRowsModel" "PacketRowsModel" "wides" "[I" ∈ uU := uM 1121 (by decide +kernel) (by decide +kernel)
theorem u_1123 : Cond.laysFinal "PacketRowsModel" "PacketRowsModel" "highs" "[I" ∈ uU := uM 1123 (by decide +kernel) (by decide +kernel)
theorem u_1125 : Cond.laysFinal "PacketRowsModel" "PacketRowsModel" "zeros" "[I" ∈ uU := uM 1125 (by decide +kernel) (by decide +kernel)
theorem u_1127 : Cond.laysFinal "PacketRowsModel" "PacketRowsModel" "passes" "[I" ∈ uU := uM 1127 (by decide +kernel) (by decide +kernel)
theorem u_1129 : Cond.laysFinal "PacketRowsModel" "PacketRowsModel" "lengths" "[I" ∈ uU := uM 1129 (by decide +kernel) (by decide +kernel)
theorem u_1131 : Cond.laysFinal "PacketRowsModel" "PacketRowsModel" "readZeros" "[I" ∈ uU := uM 1131 (by decide +kernel) (by decide +kernel)
theorem u_1133 : Cond.laysFinal "PacketRowsModel" "PacketRowsModel" "readFirsts" "[I" ∈ uU := uM 1133 (by decide +kernel) (by decide +kernel)
theorem u_1135 : Cond.laysFinal "PacketRowsModel" "PacketRowsModel" "readPasses" "[I" ∈ uU := uM 1135 (by decide +kernel) (by decide +kernel)
theorem u_1137 : Cond.laysFinal "PacketRowsModel" "PacketRowsModel" "readLengths" "[I" ∈ uU := uM 1137 (by decide +kernel) (by decide +kernel)
theorem u_1139 : Cond.lays "PacketRowsModel" "PacketRowsModel" "chosen" "I" ∈ uU := uM 1139 (by decide +kernel) (by decide +kernel)
theorem u_1141 : Cond.lays "PacketRowsModel" "PacketRowsModel" "parts" "I" ∈ uU := uM 1141 (by decide +kernel) (by decide +kernel)
theorem u_1143 : Cond.laysFinal "PacketRowsModel" "PacketRowsModel" "partRows" "[I" ∈ uU := uM 1143 (by decide +kernel) (by decide +kernel)
theorem u_1145 : Cond.lays "PacketRowsModel" "PacketRowsModel" "many" "I" ∈ uU := uM 1145 (by decide +kernel) (by decide +kernel)
theorem u_1147 : Cond.laysFinal "PacketRowsModel" "PacketRowsModel" "rows" "[I" ∈ uU := uM 1147 (by decide +kernel) (by decide +kernel)
theorem u_1149 : Cond.laysFinal "PacketRowsModel" "PacketRowsModel" "had" "[Z" ∈ uU := uM 1149 (by decide +kernel) (by decide +kernel)
theorem u_1151 : Cond.lays "PacketRowsModel" "PacketRowsModel" "fresh" "Z" ∈ uU := uM 1151 (by decide +kernel) (by decide +kernel)
theorem u_1153 : Cond.laysFinal "PacketRowsModel" "PacketRowsModel" "begins" "[I" ∈ uU := uM 1153 (by decide +kernel) (by decide +kernel)
theorem u_1155 : Cond.lays "PacketRowsModel" "PacketRowsModel" "size" "I" ∈ uU := uM 1155 (by decide +kernel) (by decide +kernel)
theorem u_1157 : Cond.laysFinal "PacketRowsModel" "PacketRowsModel" "bytes" "[I" ∈ uU := uM 1157 (by decide +kernel) (by decide +kernel)
theorem u_1159 : Cond.lays "PacketRowsModel" "PacketRowsModel" "fault" "I" ∈ uU := uM 1159 (by decide +kernel) (by decide +kernel)
theorem u_1161 : Cond.lays "PacketRowsModel" "PacketRowsModel" "over" "I" ∈ uU := uM 1161 (by decide +kernel) (by decide +kernel)
theorem u_1163 : Cond.lays "PacketRowsModel" "PacketRowsModel" "reads" "Z" ∈ uU := uM 1163 (by decide +kernel) (by decide +kernel)
theorem u_1165 : Cond.laysFinal "PacketRowsModel" "PacketRowsModel" "grown" "[I" ∈ uU := uM 1165 (by decide +kernel) (by decide +kernel)
theorem u_1167 : Cond.laysFinal "PacketRowsModel" "PacketRowsModel" "lows" "[I" ∈ uU := uM 1167 (by decide +kernel) (by decide +kernel)
theorem u_1169 : Cond.laysFinal "PacketRowsModel" "PacketRowsModel" "dones" "[Z" ∈ uU := uM 1169 (by decide +kernel) (by decide +kernel)
theorem u_1171 : Cond.lays "PacketRowsModel" "PacketRowsModel" "drafted" "I" ∈ uU := uM 1171 (by decide +kernel) (by decide +kernel)
theorem u_1173 : Cond.laysFinal "PacketRowsModel" "PacketRowsModel" "draft" "[I" ∈ uU := uM 1173 (by decide +kernel) (by decide +kernel)
theorem u_1175 : Cond.lays "PacketRowsModel" "PacketRowsModel" "at" "I" ∈ uU := uM 1175 (by decide +kernel) (by decide +kernel)
theorem u_1177 : Cond.lays "PacketRowsModel" "PacketRowsModel" "left" "I" ∈ uU := uM 1177 (by decide +kernel) (by decide +kernel)
theorem u_1179 : Cond.lays "PacketRowsModel" "PacketRowsModel" "now" "I" ∈ uU := uM 1179 (by decide +kernel) (by decide +kernel)
theorem u_1181 : Cond.lays "PacketRowsModel" "PacketRowsModel" "last" "I" ∈ uU := uM 1181 (by decide +kernel) (by decide +kernel)
theorem u_1183 : Cond.laysFinal "PacketRowsModel" "PacketRowsModel" "ends" "[I" ∈ uU := uM 1183 (by decide +kernel) (by decide +kernel)
theorem u_1185 : Cond.laysFinal "PacketRowsModel" "PacketRowsModel" "turn" "[I" ∈ uU := uM 1185 (by decide +kernel) (by decide +kernel)
theorem u_1187 : Cond.laysFinal "PacketRowsModel" "PacketRowsModel" "draftAt" "[I" ∈ uU := uM 1187 (by decide +kernel) (by decide +kernel)
theorem u_1382 : Cond.selects "PacketRows$Reader" ⟨"PacketRows$Reader", "bit", "(Z)Z"⟩ ⟨"PacketRows$Reader", "bit", "(Z)Z"⟩ ∈ uU := uM 1382 (by decide +kernel) (by decide +kernel)
theorem u_1383 : Cond.selects "PacketRows$Writer" ⟨"PacketRows$Writer", "bit", "(Z)Z"⟩ ⟨"PacketRows$Writer", "bit", "(Z)Z"⟩ ∈ uU := uM 1383 (by decide +kernel) (by decide +kernel)
theorem inBR {c0 : Cond} : ∀ w ∈ u_ws "PacketRows$ByteRow" TBR 2, w ∈ c0 :: uU := by
  intro w hw
  refine List.mem_cons_of_mem _ ?_
  simp only [u_ws, List.mem_map, List.mem_range] at hw
  obtain ⟨k, hk, rfl⟩ := hw
  rcases (show k = 0 ∨ k = 1 by omega) with rfl | rfl
  · exact u_231
  · exact u_233
theorem inHD {c0 : Cond} : ∀ w ∈ u_ws "PacketRows$Heads" THD 7, w ∈ c0 :: uU := by
  intro w hw
  refine List.mem_cons_of_mem _ ?_
  simp only [u_ws, List.mem_map, List.mem_range] at hw
  obtain ⟨k, hk, rfl⟩ := hw
  rcases (show k = 0 ∨ k = 1 ∨ k = 2 ∨ k = 3 ∨ k = 4 ∨ k = 5 ∨ k = 6 by omega) with rfl | rfl | rfl | rfl | rfl | rfl | rfl
  · exact u_331
  · exact u_333
  · exact u_335
  · exact u_337
  · exact u_339
  · exact u_341
  · exact u_343
theorem inOD {c0 : Cond} : ∀ w ∈ u_ws "PacketRows$Order" TOD 9, w ∈ c0 :: uU := by
  intro w hw
  refine List.mem_cons_of_mem _ ?_
  simp only [u_ws, List.mem_map, List.mem_range] at hw
  obtain ⟨k, hk, rfl⟩ := hw
  rcases (show k = 0 ∨ k = 1 ∨ k = 2 ∨ k = 3 ∨ k = 4 ∨ k = 5 ∨ k = 6 ∨ k = 7 ∨ k = 8 by omega) with rfl | rfl | rfl | rfl | rfl | rfl | rfl | rfl | rfl
  · exact u_199
  · exact u_201
  · exact u_203
  · exact u_205
  · exact u_207
  · exact u_209
  · exact u_211
  · exact u_213
  · exact u_215
theorem inPC {c0 : Cond} : ∀ w ∈ u_ws "PacketRows$Picture" TPC 8, w ∈ c0 :: uU := by
  intro w hw
  refine List.mem_cons_of_mem _ ?_
  simp only [u_ws, List.mem_map, List.mem_range] at hw
  obtain ⟨k, hk, rfl⟩ := hw
  rcases (show k = 0 ∨ k = 1 ∨ k = 2 ∨ k = 3 ∨ k = 4 ∨ k = 5 ∨ k = 6 ∨ k = 7 by omega) with rfl | rfl | rfl | rfl | rfl | rfl | rfl | rfl
  · exact u_133
  · exact u_135
  · exact u_137
  · exact u_139
  · exact u_141
  · exact u_143
  · exact u_145
  · exact u_147
theorem inRD {c0 : Cond} : ∀ w ∈ u_ws "PacketRows$Reader" TRD 5, w ∈ c0 :: uU := by
  intro w hw
  refine List.mem_cons_of_mem _ ?_
  simp only [u_ws, List.mem_map, List.mem_range] at hw
  obtain ⟨k, hk, rfl⟩ := hw
  rcases (show k = 0 ∨ k = 1 ∨ k = 2 ∨ k = 3 ∨ k = 4 by omega) with rfl | rfl | rfl | rfl | rfl
  · exact u_293
  · exact u_285
  · exact u_287
  · exact u_289
  · exact u_291
theorem inRW {c0 : Cond} : ∀ w ∈ u_ws "PacketRows$Rows" TRW 4, w ∈ c0 :: uU := by
  intro w hw
  refine List.mem_cons_of_mem _ ?_
  simp only [u_ws, List.mem_map, List.mem_range] at hw
  obtain ⟨k, hk, rfl⟩ := hw
  rcases (show k = 0 ∨ k = 1 ∨ k = 2 ∨ k = 3 by omega) with rfl | rfl | rfl | rfl
  · exact u_168
  · exact u_170
  · exact u_172
  · exact u_174
theorem inTR {c0 : Cond} : ∀ w ∈ u_ws "PacketRows$Tree" TTR 5, w ∈ c0 :: uU := by
  intro w hw
  refine List.mem_cons_of_mem _ ?_
  simp only [u_ws, List.mem_map, List.mem_range] at hw
  obtain ⟨k, hk, rfl⟩ := hw
  rcases (show k = 0 ∨ k = 1 ∨ k = 2 ∨ k = 3 ∨ k = 4 by omega) with rfl | rfl | rfl | rfl | rfl
  · exact u_313
  · exact u_315
  · exact u_317
  · exact u_319
  · exact u_321
theorem inWR {c0 : Cond} : ∀ w ∈ u_ws "PacketRows$Writer" TWR 7, w ∈ c0 :: uU := by
  intro w hw
  refine List.mem_cons_of_mem _ ?_
  simp only [u_ws, List.mem_map, List.mem_range] at hw
  obtain ⟨k, hk, rfl⟩ := hw
  rcases (show k = 0 ∨ k = 1 ∨ k = 2 ∨ k = 3 ∨ k = 4 ∨ k = 5 ∨ k = 6 by omega) with rfl | rfl | rfl | rfl | rfl | rfl | rfl
  · exact u_271
  · exact u_259
  · exact u_261
  · exact u_263
  · exact u_265
  · exact u_267
  · exact u_269
theorem inPR {c0 : Cond} : ∀ w ∈ u_ws "PacketRows" TPR 13, w ∈ c0 :: uU := by
  intro w hw
  refine List.mem_cons_of_mem _ ?_
  simp only [u_ws, List.mem_map, List.mem_range] at hw
  obtain ⟨k, hk, rfl⟩ := hw
  rcases (show k = 0 ∨ k = 1 ∨ k = 2 ∨ k = 3 ∨ k = 4 ∨ k = 5 ∨ k = 6 ∨ k = 7 ∨ k = 8 ∨ k = 9 ∨ k = 10 ∨ k = 11 ∨ k = 12 by omega) with rfl | rfl | rfl | rfl | rfl | rfl | rfl | rfl | rfl | rfl | rfl | rfl | rfl
  · exact u_378
  · exact u_380
  · exact u_382
  · exact u_384
  · exact u_386
  · exact u_388
  · exact u_390
  · exact u_392
  · exact u_394
  · exact u_396
  · exact u_398
  · exact u_400
  · exact u_402
theorem inMO {c0 : Cond} : ∀ w ∈ u_ws "PacketRowsModel" TMO 39, w ∈ c0 :: uU := by
  intro w hw
  refine List.mem_cons_of_mem _ ?_
  simp only [u_ws, List.mem_map, List.mem_range] at hw
  obtain ⟨k, hk, rfl⟩ := hw
  rcases (show k = 0 ∨ k = 1 ∨ k = 2 ∨ k = 3 ∨ k = 4 ∨ k = 5 ∨ k = 6 ∨ k = 7 ∨ k = 8 ∨ k = 9 ∨ k = 10 ∨ k = 11 ∨ k = 12 ∨ k = 13 ∨ k = 14 ∨ k = 15 ∨ k = 16 ∨ k = 17 ∨ k = 18 ∨ k = 19 ∨ k = 20 ∨ k = 21 ∨ k = 22 ∨ k = 23 ∨ k = 24 ∨ k = 25 ∨ k = 26 ∨ k = 27 ∨ k = 28 ∨ k = 29 ∨ k = 30 ∨ k = 31 ∨ k = 32 ∨ k = 33 ∨ k = 34 ∨ k = 35 ∨ k = 36 ∨ k = 37 ∨ k = 38 by omega) with rfl | rfl | rfl | rfl | rfl | rfl | rfl | rfl | rfl | rfl | rfl | rfl | rfl | rfl | rfl | rfl | rfl | rfl | rfl | rfl | rfl | rfl | rfl | rfl | rfl | rfl | rfl | rfl | rfl | rfl | rfl | rfl | rfl | rfl | rfl | rfl | rfl | rfl | rfl
  · exact u_1111
  · exact u_1113
  · exact u_1115
  · exact u_1117
  · exact u_1119
  · exact u_1121
  · exact u_1123
  · exact u_1125
  · exact u_1127
  · exact u_1129
  · exact u_1131
  · exact u_1133
  · exact u_1135
  · exact u_1137
  · exact u_1139
  · exact u_1141
  · exact u_1143
  · exact u_1145
  · exact u_1147
  · exact u_1149
  · exact u_1151
  · exact u_1153
  · exact u_1155
  · exact u_1157
  · exact u_1159
  · exact u_1161
  · exact u_1163
  · exact u_1165
  · exact u_1167
  · exact u_1169
  · exact u_1171
  · exact u_1173
  · exact u_1175
  · exact u_1177
  · exact u_1179
  · exact u_1181
  · exact u_1183
  · exact u_1185
  · exact u_1187

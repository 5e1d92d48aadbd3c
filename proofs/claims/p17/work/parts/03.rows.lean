/-! own rows: numbers as Nat, booleans, contracts and calls in short -/
def bI (b : Bool) : Int32 := if b then 1 else 0
theorem bI_nb (b : Bool) : narrow .boolean (.int (bI b)) = .int (bI b) := by cases b <;> rfl
theorem bI_vn (b : Bool) : vp_nar .boolean (bI b) = bI b := by cases b <;> rfl
theorem bI_fit (b : Bool) : fits .boolean (.int (bI b)) = true := by cases b <;> rfl
theorem nI_inc (i : Nat) : nI i + Int32.ofInt 1 = nI (i + 1) := nI_1 i
theorem nI_dec (i : Nat) : nI (i + 1) + Int32.ofInt (-1) = nI i := pk_m1 i
theorem nI_lits (i : Nat) : Int32.ofNat i = nI i := rfl
theorem q_upN (f : Nat → Nat) (k v : Nat) : upd (fun j => nI (f j)) k (nI v) = fun j => nI (va_up f k v j) := by
  funext j
  by_cases h : j = k
  · simp [upd, va_up, h]
  · simp [upd, va_up, h]
theorem q_upB (f : Nat → Bool) (k : Nat) (v : Bool) : upd (fun j => bI (f j)) k (bI v) = fun j => bI (va_up f k v j) := by
  funext j
  by_cases h : j = k
  · simp [upd, va_up, h]
  · simp [upd, va_up, h]
theorem q_min {x y : Nat} (hx : x < 2 ^ 31) (hy : y < 2 ^ 31) : (if nI y < nI x then nI y else nI x) = nI (min x y) := by
  by_cases h : y < x
  · rw [if_pos (nI_lt h hx), Nat.min_eq_right (by omega)]
  · rw [if_neg (nI_nlt (by omega) hy), Nat.min_eq_left (by omega)]
theorem q_max {x y : Nat} (hx : x < 2 ^ 31) (hy : y < 2 ^ 31) : (if nI x < nI y then nI y else nI x) = nI (max x y) := by
  by_cases h : x < y
  · rw [if_pos (nI_lt h hy), Nat.max_eq_right (by omega)]
  · rw [if_neg (nI_nlt (by omega) hx), Nat.max_eq_left (by omega)]
def oI (o : Option Nat) : Int32 := match o with
  | none => -1
  | some n => nI n
theorem oI_some {o : Option Nat} (h : ¬ oI o = -1) : ∃ n, o = some n := by
  cases o with
  | none => exact absurd rfl h
  | some n => exact ⟨n, rfl⟩
theorem q_upO (f : Nat → Option Nat) (k : Nat) (v : Nat) : upd (fun j => oI (f j)) k (nI v) = fun j => oI (va_up f k (some v) j) := by
  funext j
  by_cases h : j = k
  · simp [upd, va_up, h, oI]
  · simp [upd, va_up, h]
theorem q_upOn (f : Nat → Option Nat) (k : Nat) : upd (fun j => oI (f j)) k (-1) = fun j => oI (va_up f k none j) := by
  funext j
  by_cases h : j = k
  · simp [upd, va_up, h, oI]
  · simp [upd, va_up, h]
def eI (n : Nat) : Int32 := nI n - nI 1
theorem eI_succ (k : Nat) : eI (k + 1) = nI k := by rw [eI, pk_sub (by omega)]; rfl
theorem eI_inc (k : Nat) : nI k + Int32.ofInt (-1) = eI k := by
  cases k with
  | zero => decide +kernel
  | succ k => rw [eI_succ]; exact pk_m1 k
theorem eI_lt {n : Nat} (h : n < 2 ^ 31) : eI n < 0 ↔ n = 0 := by
  cases n with
  | zero => exact ⟨fun _ => rfl, fun _ => by decide +kernel⟩
  | succ k => rw [eI_succ]; exact ⟨fun q => absurd q (nI_pos (by omega)), fun q => absurd q (by omega)⟩
theorem q_warmC {a b : String} {s U : State} (hW : s.WarmedH U.vm) (hZ : va_Nw (.castable a b) s) : va_Nw (.castable a b) U := va_tabs rfl (rfl : (s.setVm U.vm).vm = U.vm) (show (Cond.castable a b).before #[] (s.setVm U.vm) = true by rw [Cond.castable_setVm hW.alike]; exact hZ)
def zW : List Cond := [Cond.methodLinkNest "PacketRows" 51 ⟨"PacketRows$ByteRow", "<init>", "()V"⟩ "PacketRows", Cond.methodLinkNest "PacketRows$Writer" 3 ⟨"PacketRows$Bits", "<init>", "()V"⟩ "PacketRows", Cond.methodLinkNest "PacketRows$Reader" 3 ⟨"PacketRows$Bits", "<init>", "()V"⟩ "PacketRows", Cond.fieldLinkNest "PacketRows$Order" 71 "PacketRows" "ORDERS" "[I" "PacketRows", Cond.castable "java/lang/IllegalArgumentException" "java/lang/IllegalArgumentException", Cond.declares ⟨"java/lang/RuntimeException", "<init>", "(Ljava/lang/String;)V"⟩, Cond.declares ⟨"java/lang/Exception", "<init>", "(Ljava/lang/String;)V"⟩, Cond.declares ⟨"java/lang/Throwable", "<init>", "(Ljava/lang/String;)V"⟩, Cond.declares ⟨"PacketRows$Bits", "beginHead", "(I)V"⟩, Cond.declares ⟨"PacketRows$Bits", "bit", "(Z)Z"⟩, Cond.declares ⟨"PacketRows$Bits", "endHead", "()V"⟩, Cond.methodLinkNest "PacketRows$ByteRow" 19 ⟨"PacketRows", "isWithin", "(III)Z"⟩ "PacketRows", Cond.methodLinkNest "PacketRows$Picture" 46 ⟨"PacketRows", "isWithin", "(III)Z"⟩ "PacketRows", Cond.castable "java/lang/IndexOutOfBoundsException" "java/lang/IndexOutOfBoundsException"]
/-- the string constants that are resolved -/
def sW : List (Nat × String) := [(111, "no such component or resolution"), (122, "no such precincts, width or height"), (149, "no such block"), (157, "no such layer"), (160, "no such passes or bytes"), (169, "no such zero planes"), (174, "no such order or ends"), (185, "no such packet or what"), (205, "no such n"), (231, "no such layer or what"), (242, "no such what")]
def sN (U : State) : Prop := ∀ x ∈ sW, ∃ a : Nat, vk_R "PacketRows" x.1 x.2 a U
theorem s_111 {U : State} (h : sN U) : ∃ a : Nat, vk_R "PacketRows" 111 "no such component or resolution" a U := h (111, "no such component or resolution") (List.mem_of_getElem? (i := 0) rfl)
theorem s_122 {U : State} (h : sN U) : ∃ a : Nat, vk_R "PacketRows" 122 "no such precincts, width or height" a U := h (122, "no such precincts, width or height") (List.mem_of_getElem? (i := 1) rfl)
theorem s_149 {U : State} (h : sN U) : ∃ a : Nat, vk_R "PacketRows" 149 "no such block" a U := h (149, "no such block") (List.mem_of_getElem? (i := 2) rfl)
theorem s_157 {U : State} (h : sN U) : ∃ a : Nat, vk_R "PacketRows" 157 "no such layer" a U := h (157, "no such layer") (List.mem_of_getElem? (i := 3) rfl)
theorem s_160 {U : State} (h : sN U) : ∃ a : Nat, vk_R "PacketRows" 160 "no such passes or bytes" a U := h (160, "no such passes or bytes") (List.mem_of_getElem? (i := 4) rfl)
theorem s_169 {U : State} (h : sN U) : ∃ a : Nat, vk_R "PacketRows" 169 "no such zero planes" a U := h (169, "no such zero planes") (List.mem_of_getElem? (i := 5) rfl)
theorem s_174 {U : State} (h : sN U) : ∃ a : Nat, vk_R "PacketRows" 174 "no such order or ends" a U := h (174, "no such order or ends") (List.mem_of_getElem? (i := 6) rfl)
theorem s_185 {U : State} (h : sN U) : ∃ a : Nat, vk_R "PacketRows" 185 "no such packet or what" a U := h (185, "no such packet or what") (List.mem_of_getElem? (i := 7) rfl)
theorem s_205 {U : State} (h : sN U) : ∃ a : Nat, vk_R "PacketRows" 205 "no such n" a U := h (205, "no such n") (List.mem_of_getElem? (i := 8) rfl)
theorem s_231 {U : State} (h : sN U) : ∃ a : Nat, vk_R "PacketRows" 231 "no such layer or what" a U := h (231, "no such layer or what") (List.mem_of_getElem? (i := 9) rfl)
theorem s_242 {U : State} (h : sN U) : ∃ a : Nat, vk_R "PacketRows" 242 "no such what" a U := h (242, "no such what") (List.mem_of_getElem? (i := 10) rfl)
/-- an IllegalArgumentException is no IndexOutOfBoundsException -/
def nC (U : State) : Prop := ∃ c t : ClassId, U.vm.findClass "java/lang/IllegalArgumentException" = some c ∧ U.vm.findClass "java/lang/IndexOutOfBoundsException" = some t ∧ U.vm.assignable c t = false
theorem nC.moved {u U : State} (h : u.vm.Alike U.vm) (hn : nC u) : nC U := by
  obtain ⟨c, t, h1, h2, h3⟩ := hn
  exact ⟨c, t, by rw [h.findClass]; exact h1, by rw [h.findClass]; exact h2, by rw [h.assignable]; exact h3⟩
/-- what the tables say of nest mates, of abstract methods, of string constants and of two exceptions: it holds in every later state -/
def zN (U : State) : Prop := (∀ w ∈ zW, va_Nw w U) ∧ sN U ∧ nC U
theorem zN.same {u U : State} (h : u.vm = U.vm) (hZ : zN u) : zN U := ⟨fun w hw => va_Nw.same (by
  simp only [zW, List.mem_cons, List.not_mem_nil, or_false] at hw
  rcases hw with rfl | rfl | rfl | rfl | rfl | rfl | rfl | rfl | rfl | rfl | rfl | rfl | rfl | rfl <;> rfl) h (hZ.1 w hw), fun x hx => by
    obtain ⟨a, h1⟩ := hZ.2.1 x hx
    exact ⟨a, vk_R.same h.symm h1⟩, nC.moved (by rw [h]; exact Vm.Alike.refl _) hZ.2.2⟩
theorem zN.warm {s U : State} (hW : s.WarmedH U.vm) (hZ : zN s) : zN U := ⟨fun w hw => by
  have h := hZ.1 w hw
  simp only [zW, List.mem_cons, List.not_mem_nil, or_false] at hw
  rcases hw with rfl | rfl | rfl | rfl | rfl | rfl | rfl | rfl | rfl | rfl | rfl | rfl | rfl | rfl
  · exact va_Nw.warmM hW h
  · exact va_Nw.warmM hW h
  · exact va_Nw.warmM hW h
  · exact va_Nw.warmF hW h
  · exact q_warmC hW h
  · exact va_Nw.warmD hW h
  · exact va_Nw.warmD hW h
  · exact va_Nw.warmD hW h
  · exact va_Nw.warmD hW h
  · exact va_Nw.warmD hW h
  · exact va_Nw.warmD hW h
  · exact va_Nw.warmM hW h
  · exact va_Nw.warmM hW h
  · exact q_warmC hW h, fun x hx => by
    obtain ⟨a, h1⟩ := hZ.2.1 x hx
    exact ⟨a, h1.warm hW⟩, nC.moved hW.alike hZ.2.2⟩
theorem z_0 : Cond.methodLinkNest "PacketRows" 51 ⟨"PacketRows$ByteRow", "<init>", "()V"⟩ "PacketRows" ∈ zW := List.mem_of_getElem? (i := 0) rfl
theorem z_1 : Cond.methodLinkNest "PacketRows$Writer" 3 ⟨"PacketRows$Bits", "<init>", "()V"⟩ "PacketRows" ∈ zW := List.mem_of_getElem? (i := 1) rfl
theorem z_2 : Cond.methodLinkNest "PacketRows$Reader" 3 ⟨"PacketRows$Bits", "<init>", "()V"⟩ "PacketRows" ∈ zW := List.mem_of_getElem? (i := 2) rfl
theorem z_3 : Cond.fieldLinkNest "PacketRows$Order" 71 "PacketRows" "ORDERS" "[I" "PacketRows" ∈ zW := List.mem_of_getElem? (i := 3) rfl
theorem z_4 : Cond.castable "java/lang/IllegalArgumentException" "java/lang/IllegalArgumentException" ∈ zW := List.mem_of_getElem? (i := 4) rfl
theorem z_5 : Cond.declares ⟨"java/lang/RuntimeException", "<init>", "(Ljava/lang/String;)V"⟩ ∈ zW := List.mem_of_getElem? (i := 5) rfl
theorem z_6 : Cond.declares ⟨"java/lang/Exception", "<init>", "(Ljava/lang/String;)V"⟩ ∈ zW := List.mem_of_getElem? (i := 6) rfl
theorem z_7 : Cond.declares ⟨"java/lang/Throwable", "<init>", "(Ljava/lang/String;)V"⟩ ∈ zW := List.mem_of_getElem? (i := 7) rfl
theorem z_8 : Cond.declares ⟨"PacketRows$Bits", "beginHead", "(I)V"⟩ ∈ zW := List.mem_of_getElem? (i := 8) rfl
theorem z_9 : Cond.declares ⟨"PacketRows$Bits", "bit", "(Z)Z"⟩ ∈ zW := List.mem_of_getElem? (i := 9) rfl
theorem z_10 : Cond.declares ⟨"PacketRows$Bits", "endHead", "()V"⟩ ∈ zW := List.mem_of_getElem? (i := 10) rfl
theorem z_11 : Cond.methodLinkNest "PacketRows$ByteRow" 19 ⟨"PacketRows", "isWithin", "(III)Z"⟩ "PacketRows" ∈ zW := List.mem_of_getElem? (i := 11) rfl
theorem z_12 : Cond.methodLinkNest "PacketRows$Picture" 46 ⟨"PacketRows", "isWithin", "(III)Z"⟩ "PacketRows" ∈ zW := List.mem_of_getElem? (i := 12) rfl
theorem z_13 : Cond.castable "java/lang/IndexOutOfBoundsException" "java/lang/IndexOutOfBoundsException" ∈ zW := List.mem_of_getElem? (i := 13) rfl
/-- a static field that holds a reference or null; its cell is none that A names -/
def oQ (C n d : String) (A : Nat → Prop) (U : State) (H : Heap) : Prop := ∃ (c : ClassId) (k : Class) (i : Nat) (f : Field) (a : Nat) (cell : Cell) (v : Value), U.vm.findClass C = some c ∧ U.fieldFound? C n d = some (c, k, i, f) ∧ f.isStatic = true ∧ k.statics = some a ∧ H[a]? = some cell ∧ cell.vm.isStatics = true ∧ cell.cls = c ∧ f.slot < cell.slots.size ∧ k.staticTypes[f.slot]? = some f.type ∧ cell.slots[f.slot]? = some v ∧ v.isRef = true ∧ ¬ A a
theorem oQ.go {C n d : String} {A B : Nat → Prop} {s U : State} {H : Heap} (h : oQ C n d A s s.heap) (hk : ∀ a : Nat, a < s.heap.size → ¬ A a → H[a]? = s.heap[a]?) (hvm : s.vm.Alike U.vm) (hAB : ∀ q, B q → A q) : oQ C n d B U H := by
  obtain ⟨c, k, i, f, a, cell, v, h1, h2, h3, h4, h5, h6, h7, h8, h9, g1, g2, g3⟩ := h
  obtain ⟨k', hi', he⟩ := State.fieldFound?_setVm hvm h2
  exact ⟨c, k', i, f, a, cell, v, by rw [hvm.findClass]; exact h1, hi', h3, by rw [he]; exact h4, by rw [hk a (Array.getElem?_eq_some_iff.mp h5).1 g3]; exact h5, h6, h7, h8, by rw [he]; exact h9, g1, g2, fun z => g3 (hAB a z)⟩
theorem oQ.lays {C n d : String} {A : Nat → Prop} {s : State} {args : Array Value} (h : oQ C n d A s s.heap) : (Cond.laysStatic C n d).before args s = true := by
  obtain ⟨c, k, i, f, a, cell, v, h1, h2, h3, h4, h5, h6, h7, h8, h9, -⟩ := h
  exact Cond.laysStatic_of (args := args) (first := s) (o := none) (idx := []) h1 h2 h3 h4 h5 h6 h7 h8 h9
theorem oQ.ref {C n d : String} {A : Nat → Prop} {s : State} {args : Array Value} (h : oQ C n d A s s.heap) : (Cond.isRef (.static C n d)).before args s = true := by
  obtain ⟨c, k, i, f, a, cell, v, h1, h2, h3, h4, h5, h6, h7, h8, h9, g1, g2, g3⟩ := h
  have he : (Term.static C n d).eval args s none [] s = some v := by simp [Term.eval, State.fieldNamed?, h2, h3, h4, h5, h6, g1]
  simp only [Cond.before, Cond.holds, Cond.value, he]
  cases v <;> simp_all [Value.isRef]
theorem oQ.of {C n d : String} {A : Nat → Prop} {s : State} {args : Array Value} (hl : (Cond.laysStatic C n d).before args s = true) (hr : (Cond.isRef (.static C n d)).before args s = true) (hA : ∀ a : Nat, a < s.heap.size → ¬ A a) : oQ C n d A s s.heap := by
  obtain ⟨c, k, i, f, a, cell, h1, h2, h3, h4, h5, h6, h7, h8, h9⟩ := Cond.laysStatic_spec hl
  cases hv : (Term.static C n d).eval args s none [] s with
  | none => simp [Cond.before, Cond.holds, Cond.value, hv] at hr
  | some v =>
    obtain ⟨-, a', cell', e1, e2, -, e3⟩ := Term.static_spec h2 hv
    cases h4.symm.trans e1
    cases h5.symm.trans e2
    refine ⟨c, k, i, f, a, cell, v, h1, h2, h3, h4, h5, h6, h7, h8, h9, e3, ?_, hA a (Array.getElem?_eq_some_iff.mp h5).1⟩
    simp only [Cond.before, Cond.holds, Cond.value, hv] at hr
    cases v <;> simp_all [Value.isRef]
def m_ord (j : Nat) : Nat := [0, 1, 2, 3, 1, 0, 2, 3, 1, 3, 2, 0, 3, 2, 1, 0, 2, 3, 1, 0].getD j 0
def ordV : Nat → Value := fun j => .int (nI (m_ord j))
abbrev sUN : String := "[Ljava/lang/StackTraceElement;"
abbrev sLI : String := "Ljava/util/List;"
/-- what lies in the heap and no method of ours changes: the table of orders, two statics of Throwable -/
def oN (A : Nat → Prop) (U : State) : Prop := (∃ t : Nat, va_Z "PacketRows" "ORDERS" "[I" (.ref t) A U U.heap ∧ va_T .int t 20 ordV A U U.heap) ∧ oQ "java/lang/Throwable" "UNASSIGNED_STACK" sUN A U U.heap ∧ oQ "java/lang/Throwable" "SUPPRESSED_SENTINEL" sLI A U U.heap
theorem oN.go {A B : Nat → Prop} {s U : State} {H : Heap} {locs : List Loc} (h : oN A s) (hS : va_S A s.heap H locs) (hU : U.heap = H) (hvm : s.vm.Alike U.vm) (hAB : ∀ q, B q → A q) : oN B U := by
  obtain ⟨⟨t, h1, h2⟩, h3, h4⟩ := h
  subst hU
  exact ⟨⟨t, ((h1.kept hS.2.1).moved hvm).narrow hAB, ((h2.kept hS.2.1).moved hvm).narrow hAB⟩, h3.go hS.2.1 hvm hAB, h4.go hS.2.1 hvm hAB⟩
theorem gA {c0 c1 : Cond} {own C owner : String} {idx : Nat} {x y : MethodName} (h1 : Cond.methodLink own idx x ∈ uU) (h2 : Cond.sameMethod x.cls owner x.name x.desc ∈ uU) (h3 : Cond.selects C x y ∈ uU) (h4 : Cond.instanceMethod y ∈ uU) (h5 : Cond.initialized y.cls ∈ uU) (h6 : c1 ∈ uU) : GoodIn (c0 :: uU) (va_wsU own idx C owner x y (c1 :: uU)) := gU (fun w hw => by
  rcases List.mem_append.mp hw with h | h
  · simp only [List.mem_cons, List.not_mem_nil, or_false] at h
    rcases h with rfl | rfl | rfl | rfl | rfl <;> assumption
  · exact gW h6 w h)
/-- a call of a method that the receiver's class has from above -/
theorem q_cwU {R : Room} {s : State} {args : Array Value} {own C owner : String} {index maxL mc ms m0 : Nat} {x y : MethodName} {bytes b0 : ByteArray} {ret r0 : Option FieldType} {Ts ws ws' : List Cond} {rm : Room} (n : Nat) (ht : ∀ w ∈ Ts, w.before args s = true) (hT : GoodIn Ts (va_wsU own index C owner x y ws)) (hw : ws = Cond.code y bytes maxL ret :: ws') (hrc : rm.cells = mc) (hrs : rm.slots = ms)
    (hi : (Cond.instanceMethod ⟨owner, x.name, x.desc⟩).before args s = true) (hc0 : (Cond.code ⟨owner, x.name, x.desc⟩ b0 m0 r0).before args s = true) (hd : owner ≠ "java/lang/invoke/MethodHandle" ∧ owner ≠ "java/lang/invoke/VarHandle" ∧ (parseMethodDescriptor x.desc).map (fun d => d.parameters.length) = some n) (hR : rm.frames + 1 ≤ R.frames ∧ 8 + (maxL + 11) + rm.locals ≤ R.locals) : va_CU R s args own C owner index x y bytes maxL ret ws rm mc ms n := by
  have ok : ∀ w ∈ va_wsU own index C owner x y ws, w.before args s = true := fun w h => ht w (hT w h).1
  have hG : GoodIn Ts ws := fun w h => hT w (by unfold va_wsU; exact List.mem_append_right _ h)
  have hc : Cond.code y bytes maxL ret ∈ ws := by rw [hw]; exact List.mem_cons_self
  refine ⟨⟨hrc, hrs, hR.1, hR.2, pay_in ht hG, hc⟩, ht _ (hG _ hc).1, ok _ (by simp [va_wsU]), ⟨hd.1, hd.2.1⟩, fun sig h => ?_, ok _ (by simp [va_wsU]), ok _ (by simp [va_wsU]), va_Decl.of hi hc0, ok _ (by simp [va_wsU]), ok _ (by simp [va_wsU])⟩
  have h2 := hd.2.2
  rw [h] at h2
  exact (Option.some.inj h2).symm
section QN
variable {p : Program} {l : Launch} {e : Env} {R : Room} {s : State} {m : MethodId} {args : Array Value} {below : List Frame} {meth : Method} {c : Code} {H : Heap} {locs : List Loc} {cells slots : Nat} {Q : State → Prop}
variable {cc : ByteArray} {pc : Nat} {ls : Array Slot} {rest : List Value}
theorem qn_iadd (hx : p.tables.exec = Jvm.exec) (hb : c.code = cc) {a b : Nat} (hdg : decode cc pc = .ok (.iadd, 1)) 
    (k : W p l e R s m args below meth c H locs cells slots Q (F0 m (pc + 1) ls (.int (nI (a + b)) :: rest))) : W p l e R s m args below meth c H locs cells slots Q (F0 m pc ls (.int (nI b) :: .int (nI a) :: rest)) := lv_iadd hx hb hdg (by rw [nI_add]; exact k)
theorem qn_imul (hx : p.tables.exec = Jvm.exec) (hb : c.code = cc) {a b : Nat} (hdg : decode cc pc = .ok (.imul, 1)) 
    (k : W p l e R s m args below meth c H locs cells slots Q (F0 m (pc + 1) ls (.int (nI (a * b)) :: rest))) : W p l e R s m args below meth c H locs cells slots Q (F0 m pc ls (.int (nI b) :: .int (nI a) :: rest)) := lv_imul hx hb hdg (by rw [pk_mul]; exact k)
theorem qn_isub (hx : p.tables.exec = Jvm.exec) (hb : c.code = cc) {a b : Nat} (hdg : decode cc pc = .ok (.isub, 1)) (h : b ≤ a)
    (k : W p l e R s m args below meth c H locs cells slots Q (F0 m (pc + 1) ls (.int (nI (a - b)) :: rest))) : W p l e R s m args below meth c H locs cells slots Q (F0 m pc ls (.int (nI b) :: .int (nI a) :: rest)) := lv_isub hx hb hdg (by rw [pk_sub h]; exact k)
theorem qn_idiv (hx : p.tables.exec = Jvm.exec) (hb : c.code = cc) {a b : Nat} (hdg : decode cc pc = .ok (.idiv, 1)) (ha : a < 2 ^ 31) (h0 : 0 < b) (hb2 : b < 2 ^ 31)
    (k : W p l e R s m args below meth c H locs cells slots Q (F0 m (pc + 1) ls (.int (nI (a / b)) :: rest))) : W p l e R s m args below meth c H locs cells slots Q (F0 m pc ls (.int (nI b) :: .int (nI a) :: rest)) := lv_idiv hx hb hdg (nI_ne0 h0 hb2) (by rw [pk_div ha h0 hb2]; exact k)
theorem qn_irem (hx : p.tables.exec = Jvm.exec) (hb : c.code = cc) {a b : Nat} (hdg : decode cc pc = .ok (.irem, 1)) (ha : a < 2 ^ 31) (h0 : 0 < b) (hb2 : b < 2 ^ 31)
    (k : W p l e R s m args below meth c H locs cells slots Q (F0 m (pc + 1) ls (.int (nI (a % b)) :: rest))) : W p l e R s m args below meth c H locs cells slots Q (F0 m pc ls (.int (nI b) :: .int (nI a) :: rest)) := lv_irem hx hb hdg (nI_ne0 h0 hb2) (by rw [pk_rem ha h0 hb2]; exact k)
theorem nx_or (a b : Nat) : nI a ||| nI b = nI (a ||| b) := by
  apply Int32.toBitVec_inj.1
  show BitVec.ofNat 32 a ||| BitVec.ofNat 32 b = BitVec.ofNat 32 (a ||| b)
  apply BitVec.eq_of_getLsbD_eq
  intro i hi
  simp [hi]
theorem nx_and (a b : Nat) : nI a &&& nI b = nI (a &&& b) := by
  apply Int32.toBitVec_inj.1
  show BitVec.ofNat 32 a &&& BitVec.ofNat 32 b = BitVec.ofNat 32 (a &&& b)
  apply BitVec.eq_of_getLsbD_eq
  intro i hi
  simp [hi]
theorem s_l : ∀ n, n < 32 → ((nI n &&& 31).toBitVec.smod 32).toNat = n := by decide +kernel
def b2n (b : Bool) : Nat := if b then 1 else 0
theorem bI_n (b : Bool) : bI b = nI (b2n b) := by cases b <;> rfl
theorem qn_ishl (hx : p.tables.exec = Jvm.exec) (hb : c.code = cc) {a b : Nat} (hdg : decode cc pc = .ok (.ishl, 1)) (hk : b < 32) (h : a * 2 ^ b < 2 ^ 32)
    (k : W p l e R s m args below meth c H locs cells slots Q (F0 m (pc + 1) ls (.int (nI (a * 2 ^ b)) :: rest))) : W p l e R s m args below meth c H locs cells slots Q (F0 m pc ls (.int (nI b) :: .int (nI a) :: rest)) := lv_ishl hx hb hdg (by rw [pk_shlN _ b (s_l b hk) h]; exact k)
theorem qn_ishr (hx : p.tables.exec = Jvm.exec) (hb : c.code = cc) {a b : Nat} (hdg : decode cc pc = .ok (.ishr, 1)) (ha : a < 2 ^ 31) (hk : b < 32)
    (k : W p l e R s m args below meth c H locs cells slots Q (F0 m (pc + 1) ls (.int (nI (a / 2 ^ b)) :: rest))) : W p l e R s m args below meth c H locs cells slots Q (F0 m pc ls (.int (nI b) :: .int (nI a) :: rest)) := lv_ishr hx hb hdg (by rw [pk_shrN ha _ b (s_l b hk)]; exact k)
theorem qn_iand (hx : p.tables.exec = Jvm.exec) (hb : c.code = cc) {a b : Nat} (hdg : decode cc pc = .ok (.iand, 1)) 
    (k : W p l e R s m args below meth c H locs cells slots Q (F0 m (pc + 1) ls (.int (nI (a &&& b)) :: rest))) : W p l e R s m args below meth c H locs cells slots Q (F0 m pc ls (.int (nI b) :: .int (nI a) :: rest)) := lv_iand hx hb hdg (by rw [nx_and]; exact k)
theorem qn_ior (hx : p.tables.exec = Jvm.exec) (hb : c.code = cc) {a b : Nat} (hdg : decode cc pc = .ok (.ior, 1)) 
    (k : W p l e R s m args below meth c H locs cells slots Q (F0 m (pc + 1) ls (.int (nI (a ||| b)) :: rest))) : W p l e R s m args below meth c H locs cells slots Q (F0 m pc ls (.int (nI b) :: .int (nI a) :: rest)) := lv_ior hx hb hdg (by rw [nx_or]; exact k)
theorem qn_ceq (hx : p.tables.exec = Jvm.exec) (hb : c.code = cc) {a b : Nat} {off : Int} {tgt : Nat} (hdg : decode cc pc = .ok (.if_icmp .eq off, 3)) (ht : (pc : Int) + off = (tgt : Int)) (ha : a < 2 ^ 31) (hb2 : b < 2 ^ 31)
    (kt : a = b → W p l e R s m args below meth c H locs cells slots Q (F0 m tgt ls rest)) (kf : ¬ a = b → W p l e R s m args below meth c H locs cells slots Q (F0 m (pc + 3) ls rest)) : W p l e R s m args below meth c H locs cells slots Q (F0 m pc ls (.int (nI b) :: .int (nI a) :: rest)) :=
  lv_icmp_eq hx hb hdg ht (fun h => kt ((nI_eq ha hb2).mp h)) (fun h => kf (fun q => h ((nI_eq ha hb2).mpr q)))
theorem qn_cne (hx : p.tables.exec = Jvm.exec) (hb : c.code = cc) {a b : Nat} {off : Int} {tgt : Nat} (hdg : decode cc pc = .ok (.if_icmp .ne off, 3)) (ht : (pc : Int) + off = (tgt : Int)) (ha : a < 2 ^ 31) (hb2 : b < 2 ^ 31)
    (kt : ¬ a = b → W p l e R s m args below meth c H locs cells slots Q (F0 m tgt ls rest)) (kf : a = b → W p l e R s m args below meth c H locs cells slots Q (F0 m (pc + 3) ls rest)) : W p l e R s m args below meth c H locs cells slots Q (F0 m pc ls (.int (nI b) :: .int (nI a) :: rest)) :=
  lv_icmp_ne hx hb hdg ht (fun h => kt (fun q => h ((nI_eq ha hb2).mpr q))) (fun h => kf ((nI_eq ha hb2).mp h))
theorem qn_clt (hx : p.tables.exec = Jvm.exec) (hb : c.code = cc) {a b : Nat} {off : Int} {tgt : Nat} (hdg : decode cc pc = .ok (.if_icmp .lt off, 3)) (ht : (pc : Int) + off = (tgt : Int)) (ha : a < 2 ^ 31) (hb2 : b < 2 ^ 31)
    (kt : a < b → W p l e R s m args below meth c H locs cells slots Q (F0 m tgt ls rest)) (kf : b ≤ a → W p l e R s m args below meth c H locs cells slots Q (F0 m (pc + 3) ls rest)) : W p l e R s m args below meth c H locs cells slots Q (F0 m pc ls (.int (nI b) :: .int (nI a) :: rest)) :=
  lv_icmp_lt hx hb hdg ht (fun h => kt ((nI_ltI ha hb2).mp h)) (fun h => kf (Nat.not_lt.mp (fun q => h ((nI_ltI ha hb2).mpr q))))
theorem qn_cge (hx : p.tables.exec = Jvm.exec) (hb : c.code = cc) {a b : Nat} {off : Int} {tgt : Nat} (hdg : decode cc pc = .ok (.if_icmp .ge off, 3)) (ht : (pc : Int) + off = (tgt : Int)) (ha : a < 2 ^ 31) (hb2 : b < 2 ^ 31)
    (kt : b ≤ a → W p l e R s m args below meth c H locs cells slots Q (F0 m tgt ls rest)) (kf : a < b → W p l e R s m args below meth c H locs cells slots Q (F0 m (pc + 3) ls rest)) : W p l e R s m args below meth c H locs cells slots Q (F0 m pc ls (.int (nI b) :: .int (nI a) :: rest)) :=
  lv_icmp_ge hx hb hdg ht (fun h => kt ((nI_leI hb2 ha).mp h)) (fun h => kf (Nat.not_le.mp (fun q => h ((nI_leI hb2 ha).mpr q))))
theorem qn_cgt (hx : p.tables.exec = Jvm.exec) (hb : c.code = cc) {a b : Nat} {off : Int} {tgt : Nat} (hdg : decode cc pc = .ok (.if_icmp .gt off, 3)) (ht : (pc : Int) + off = (tgt : Int)) (ha : a < 2 ^ 31) (hb2 : b < 2 ^ 31)
    (kt : b < a → W p l e R s m args below meth c H locs cells slots Q (F0 m tgt ls rest)) (kf : a ≤ b → W p l e R s m args below meth c H locs cells slots Q (F0 m (pc + 3) ls rest)) : W p l e R s m args below meth c H locs cells slots Q (F0 m pc ls (.int (nI b) :: .int (nI a) :: rest)) :=
  lv_icmp_gt hx hb hdg ht (fun h => kt ((nI_ltI hb2 ha).mp h)) (fun h => kf (Nat.not_lt.mp (fun q => h ((nI_ltI hb2 ha).mpr q))))
theorem qn_cle (hx : p.tables.exec = Jvm.exec) (hb : c.code = cc) {a b : Nat} {off : Int} {tgt : Nat} (hdg : decode cc pc = .ok (.if_icmp .le off, 3)) (ht : (pc : Int) + off = (tgt : Int)) (ha : a < 2 ^ 31) (hb2 : b < 2 ^ 31)
    (kt : a ≤ b → W p l e R s m args below meth c H locs cells slots Q (F0 m tgt ls rest)) (kf : b < a → W p l e R s m args below meth c H locs cells slots Q (F0 m (pc + 3) ls rest)) : W p l e R s m args below meth c H locs cells slots Q (F0 m pc ls (.int (nI b) :: .int (nI a) :: rest)) :=
  lv_icmp_le hx hb hdg ht (fun h => kt ((nI_leI ha hb2).mp h)) (fun h => kf (Nat.not_le.mp (fun q => h ((nI_leI ha hb2).mpr q))))
theorem q_z {a : Nat} (ha : a < 2 ^ 31) : nI a = 0 ↔ a = 0 := by rw [← nI_0]; exact nI_eq ha (by omega)
theorem q_gz {a : Nat} (ha : a < 2 ^ 31) : (0 : Int32) < nI a ↔ 0 < a := by rw [← nI_0]; exact nI_ltI (by omega) ha
theorem q_lz {a : Nat} (ha : a < 2 ^ 31) : nI a ≤ (0 : Int32) ↔ a = 0 := by rw [← nI_0, nI_leI ha (by omega)]; omega
theorem qn_ieq (hx : p.tables.exec = Jvm.exec) (hb : c.code = cc) {a : Nat} {off : Int} {tgt : Nat} (hdg : decode cc pc = .ok (.ifCond .eq off, 3)) (ht : (pc : Int) + off = (tgt : Int)) (ha : a < 2 ^ 31)
    (kt : a = 0 → W p l e R s m args below meth c H locs cells slots Q (F0 m tgt ls rest)) (kf : 0 < a → W p l e R s m args below meth c H locs cells slots Q (F0 m (pc + 3) ls rest)) : W p l e R s m args below meth c H locs cells slots Q (F0 m pc ls (.int (nI a) :: rest)) :=
  lv_if_eq hx hb hdg ht (fun h => kt ((q_z ha).mp h)) (fun h => kf (Nat.pos_of_ne_zero (fun q => h ((q_z ha).mpr q))))
theorem qn_ine (hx : p.tables.exec = Jvm.exec) (hb : c.code = cc) {a : Nat} {off : Int} {tgt : Nat} (hdg : decode cc pc = .ok (.ifCond .ne off, 3)) (ht : (pc : Int) + off = (tgt : Int)) (ha : a < 2 ^ 31)
    (kt : 0 < a → W p l e R s m args below meth c H locs cells slots Q (F0 m tgt ls rest)) (kf : a = 0 → W p l e R s m args below meth c H locs cells slots Q (F0 m (pc + 3) ls rest)) : W p l e R s m args below meth c H locs cells slots Q (F0 m pc ls (.int (nI a) :: rest)) :=
  lv_if_ne hx hb hdg ht (fun h => kt (Nat.pos_of_ne_zero (fun q => h ((q_z ha).mpr q)))) (fun h => kf ((q_z ha).mp h))
theorem qn_ile (hx : p.tables.exec = Jvm.exec) (hb : c.code = cc) {a : Nat} {off : Int} {tgt : Nat} (hdg : decode cc pc = .ok (.ifCond .le off, 3)) (ht : (pc : Int) + off = (tgt : Int)) (ha : a < 2 ^ 31)
    (kt : a = 0 → W p l e R s m args below meth c H locs cells slots Q (F0 m tgt ls rest)) (kf : 0 < a → W p l e R s m args below meth c H locs cells slots Q (F0 m (pc + 3) ls rest)) : W p l e R s m args below meth c H locs cells slots Q (F0 m pc ls (.int (nI a) :: rest)) :=
  lv_if_le hx hb hdg ht (fun h => kt ((q_lz ha).mp h)) (fun h => kf (Nat.pos_of_ne_zero (fun q => h ((q_lz ha).mpr q))))
theorem qn_igt (hx : p.tables.exec = Jvm.exec) (hb : c.code = cc) {a : Nat} {off : Int} {tgt : Nat} (hdg : decode cc pc = .ok (.ifCond .gt off, 3)) (ht : (pc : Int) + off = (tgt : Int)) (ha : a < 2 ^ 31)
    (kt : 0 < a → W p l e R s m args below meth c H locs cells slots Q (F0 m tgt ls rest)) (kf : a = 0 → W p l e R s m args below meth c H locs cells slots Q (F0 m (pc + 3) ls rest)) : W p l e R s m args below meth c H locs cells slots Q (F0 m pc ls (.int (nI a) :: rest)) :=
  lv_if_gt hx hb hdg ht (fun h => kt ((q_gz ha).mp h)) (fun h => kf (Nat.eq_zero_of_not_pos (fun q => h ((q_gz ha).mpr q))))
theorem qn_ilt (hx : p.tables.exec = Jvm.exec) (hb : c.code = cc) {a : Nat} {off : Int} {tgt : Nat} (hdg : decode cc pc = .ok (.ifCond .lt off, 3)) (ht : (pc : Int) + off = (tgt : Int)) (ha : a < 2 ^ 31)
    (kf : W p l e R s m args below meth c H locs cells slots Q (F0 m (pc + 3) ls rest)) : W p l e R s m args below meth c H locs cells slots Q (F0 m pc ls (.int (nI a) :: rest)) :=
  lv_if_lt hx hb hdg ht (fun h => absurd h (nI_pos ha)) (fun _ => kf)
theorem qn_ige (hx : p.tables.exec = Jvm.exec) (hb : c.code = cc) {a : Nat} {off : Int} {tgt : Nat} (hdg : decode cc pc = .ok (.ifCond .ge off, 3)) (ht : (pc : Int) + off = (tgt : Int)) (ha : a < 2 ^ 31)
    (kt : W p l e R s m args below meth c H locs cells slots Q (F0 m tgt ls rest)) : W p l e R s m args below meth c H locs cells slots Q (F0 m pc ls (.int (nI a) :: rest)) :=
  lv_if_ge hx hb hdg ht (fun _ => kt) (fun h => absurd (nI_pos' ha) h)
theorem q_b0 {b : Bool} : bI b = 0 ↔ b = false := by cases b <;> decide
theorem qb_ieq (hx : p.tables.exec = Jvm.exec) (hb : c.code = cc) {b : Bool} {off : Int} {tgt : Nat} (hdg : decode cc pc = .ok (.ifCond .eq off, 3)) (ht : (pc : Int) + off = (tgt : Int))
    (kt : b = false → W p l e R s m args below meth c H locs cells slots Q (F0 m tgt ls rest)) (kf : b = true → W p l e R s m args below meth c H locs cells slots Q (F0 m (pc + 3) ls rest)) : W p l e R s m args below meth c H locs cells slots Q (F0 m pc ls (.int (bI b) :: rest)) :=
  lv_if_eq hx hb hdg ht (fun h => kt (q_b0.mp h)) (fun h => kf (by cases b; exact absurd (q_b0.mpr rfl) h; rfl))
theorem qb_ine (hx : p.tables.exec = Jvm.exec) (hb : c.code = cc) {b : Bool} {off : Int} {tgt : Nat} (hdg : decode cc pc = .ok (.ifCond .ne off, 3)) (ht : (pc : Int) + off = (tgt : Int))
    (kt : b = true → W p l e R s m args below meth c H locs cells slots Q (F0 m tgt ls rest)) (kf : b = false → W p l e R s m args below meth c H locs cells slots Q (F0 m (pc + 3) ls rest)) : W p l e R s m args below meth c H locs cells slots Q (F0 m pc ls (.int (bI b) :: rest)) :=
  lv_if_ne hx hb hdg ht (fun h => kt (by cases b; exact absurd (q_b0.mpr rfl) h; rfl)) (fun h => kf (q_b0.mp h))
theorem qo_ceq (hx : p.tables.exec = Jvm.exec) (hb : c.code = cc) {o : Option Nat} {off : Int} {tgt : Nat} (hdg : decode cc pc = .ok (.if_icmp .eq off, 3)) (ht : (pc : Int) + off = (tgt : Int))
    (kt : oI o = -1 → W p l e R s m args below meth c H locs cells slots Q (F0 m tgt ls rest)) (kf : ∀ n, o = some n → W p l e R s m args below meth c H locs cells slots Q (F0 m (pc + 3) ls rest)) : W p l e R s m args below meth c H locs cells slots Q (F0 m pc ls (.int (-1) :: .int (oI o) :: rest)) :=
  lv_icmp_eq hx hb hdg ht kt (fun h => by obtain ⟨n, e⟩ := oI_some h; exact kf n e)
theorem qo_cne (hx : p.tables.exec = Jvm.exec) (hb : c.code = cc) {o : Option Nat} {off : Int} {tgt : Nat} (hdg : decode cc pc = .ok (.if_icmp .ne off, 3)) (ht : (pc : Int) + off = (tgt : Int))
    (kt : ∀ n, o = some n → W p l e R s m args below meth c H locs cells slots Q (F0 m tgt ls rest)) (kf : oI o = -1 → W p l e R s m args below meth c H locs cells slots Q (F0 m (pc + 3) ls rest)) : W p l e R s m args below meth c H locs cells slots Q (F0 m pc ls (.int (-1) :: .int (oI o) :: rest)) :=
  lv_icmp_ne hx hb hdg ht (fun h => by obtain ⟨n, e⟩ := oI_some h; exact kt n e) kf
theorem qd_ilt (hx : p.tables.exec = Jvm.exec) (hb : c.code = cc) {e0 : Nat} {off : Int} {tgt : Nat} (hdg : decode cc pc = .ok (.ifCond .lt off, 3)) (ht : (pc : Int) + off = (tgt : Int))
    (kt : e0 = 0 → W p l e R s m args below meth c H locs cells slots Q (F0 m tgt ls rest)) (kf : ∀ k, e0 = k + 1 → W p l e R s m args below meth c H locs cells slots Q (F0 m (pc + 3) ls rest)) (hn : e0 < 2 ^ 31 := by omega) : W p l e R s m args below meth c H locs cells slots Q (F0 m pc ls (.int (eI e0) :: rest)) :=
  lv_if_lt hx hb hdg ht (fun h => kt ((eI_lt hn).mp h)) (fun h => kf (e0 - 1) (by have : ¬ e0 = 0 := fun q => h ((eI_lt hn).mpr q); omega))
theorem qd_ige (hx : p.tables.exec = Jvm.exec) (hb : c.code = cc) {e0 : Nat} {off : Int} {tgt : Nat} (hdg : decode cc pc = .ok (.ifCond .ge off, 3)) (ht : (pc : Int) + off = (tgt : Int))
    (kt : ∀ k, e0 = k + 1 → W p l e R s m args below meth c H locs cells slots Q (F0 m tgt ls rest)) (kf : e0 = 0 → W p l e R s m args below meth c H locs cells slots Q (F0 m (pc + 3) ls rest)) (hn : e0 < 2 ^ 31 := by omega) : W p l e R s m args below meth c H locs cells slots Q (F0 m pc ls (.int (eI e0) :: rest)) :=
  lv_if_ge hx hb hdg ht (fun h => kt (e0 - 1) (by have : ¬ e0 = 0 := fun q => Int32.not_lt.mpr h ((eI_lt hn).mpr q); omega)) (fun h => kf ((eI_lt hn).mp (Int32.not_le.mp h)))
theorem qn_eq {x y : Int32} (h : x = y) (k : W p l e R s m args below meth c H locs cells slots Q (F0 m pc ls (.int y :: rest))) : W p l e R s m args below meth c H locs cells slots Q (F0 m pc ls (.int x :: rest)) := by subst h; exact k
end QN
section QA
variable {p : Program} {l : Launch} {e : Env} {R : Room} {s : State} {m : MethodId} {args : Array Value} {below : List Frame} {meth : Method} {c : Code} {H : Heap} {locs : List Loc} {cells slots : Nat} {Q : State → Prop}
variable {cc : ByteArray} {pc : Nat} {ls : Array Slot} {rest : List Value} {D : va_G} {cl : List vw_C} {tys : List (ClassId × FieldType)} {ws : va_W} {A : Nat → Prop} {H0 : Heap} {a : Nat}
theorem qi_ald (hx : p.tables.exec = Jvm.exec) (hb : c.code = cc) (hK : va_K D cl tys s) (hP : va_P D cl ws H) (q0 t0 : Nat) {cA : ClassId} {n : Nat} {f : Nat → Nat} (ha : ws[q0]? = some (a, .inl (cA, n, .inl (fun j => nI (f j))))) (ht : tys[t0]? = some (cA, .int)) {k : Nat} (hk : k < n) (hn : n < 2 ^ 31) (hdg : decode cc pc = .ok (.iaload, 1))
    (kk : W p l e R s m args below meth c H locs cells slots Q (F0 m (pc + 1) ls (.int (nI (f k)) :: rest))) : W p l e R s m args below meth c H locs cells slots Q (F0 m pc ls (.int (nI k) :: .ref a :: rest)) :=
  va_iald hx hb hK hP q0 t0 ha ht (vp_in_nI hk hn) hdg (by rw [nI_clamp (by omega)]; exact kk)
theorem qz_ald (hx : p.tables.exec = Jvm.exec) (hb : c.code = cc) (hK : va_K D cl tys s) (hP : va_P D cl ws H) (q0 t0 : Nat) {cA : ClassId} {n : Nat} {f : Nat → Bool} (ha : ws[q0]? = some (a, .inl (cA, n, .inl (fun j => bI (f j))))) (ht : tys[t0]? = some (cA, .boolean)) {k : Nat} (hk : k < n) (hn : n < 2 ^ 31) (hdg : decode cc pc = .ok (.baload, 1))
    (kk : W p l e R s m args below meth c H locs cells slots Q (F0 m (pc + 1) ls (.int (bI (f k)) :: rest))) : W p l e R s m args below meth c H locs cells slots Q (F0 m pc ls (.int (nI k) :: .ref a :: rest)) :=
  va_zald hx hb hK hP q0 t0 ha ht (vp_in_nI hk hn) hdg (by rw [nI_clamp (by omega)]; exact kk)
theorem qo_ald (hx : p.tables.exec = Jvm.exec) (hb : c.code = cc) (hK : va_K D cl tys s) (hP : va_P D cl ws H) (q0 t0 : Nat) {cA : ClassId} {n : Nat} {f : Nat → Option Nat} (ha : ws[q0]? = some (a, .inl (cA, n, .inl (fun j => oI (f j))))) (ht : tys[t0]? = some (cA, .int)) {k : Nat} (hk : k < n) (hn : n < 2 ^ 31) (hdg : decode cc pc = .ok (.iaload, 1))
    (kk : W p l e R s m args below meth c H locs cells slots Q (F0 m (pc + 1) ls (.int (oI (f k)) :: rest))) : W p l e R s m args below meth c H locs cells slots Q (F0 m pc ls (.int (nI k) :: .ref a :: rest)) :=
  va_iald hx hb hK hP q0 t0 ha ht (vp_in_nI hk hn) hdg (by rw [nI_clamp (by omega)]; exact kk)
theorem qi_ast (hx : p.tables.exec = Jvm.exec) (hb : c.code = cc) (hK : va_K D cl tys s) (hP : va_P D cl ws H) (hD : va_D A ws) (hS : va_S A H0 H locs) (q0 t0 : Nat) {cA : ClassId} {n : Nat} {f : Nat → Nat} (ha : ws[q0]? = some (a, .inl (cA, n, .inl (fun j => nI (f j))))) (ht : tys[t0]? = some (cA, .int)) {k : Nat} {v : Nat} (hk : k < n) (hn : n < 2 ^ 31) (hdg : decode cc pc = .ok (.iastore, 1))
    (kk : ∀ (H1 : Heap) (locs1 : List Loc), va_P D cl (ws.set q0 (a, .inl (cA, n, .inl (fun j => nI (va_up f k v j))))) H1 → va_D A (ws.set q0 (a, .inl (cA, n, .inl (fun j => nI (va_up f k v j))))) → va_S A H0 H1 locs1 → W p l e R s m args below meth c H1 locs1 cells slots Q (F0 m (pc + 1) ls rest)) : W p l e R s m args below meth c H locs cells slots Q (F0 m pc ls (.int (nI v) :: .int (nI k) :: .ref a :: rest)) :=
  va_iast hx hb hK hP hD hS q0 t0 ha ht (vp_in_nI hk hn) hdg (fun H1 locs1 h1 h2 h3 => by
    rw [nI_clamp (by omega), q_upN] at h1 h2
    exact kk H1 locs1 h1 h2 h3)
theorem qz_ast (hx : p.tables.exec = Jvm.exec) (hb : c.code = cc) (hK : va_K D cl tys s) (hP : va_P D cl ws H) (hD : va_D A ws) (hS : va_S A H0 H locs) (q0 t0 : Nat) {cA : ClassId} {n : Nat} {f : Nat → Bool} (ha : ws[q0]? = some (a, .inl (cA, n, .inl (fun j => bI (f j))))) (ht : tys[t0]? = some (cA, .boolean)) {k : Nat} {v : Bool} (hk : k < n) (hn : n < 2 ^ 31) (hdg : decode cc pc = .ok (.bastore, 1))
    (kk : ∀ (H1 : Heap) (locs1 : List Loc), va_P D cl (ws.set q0 (a, .inl (cA, n, .inl (fun j => bI (va_up f k v j))))) H1 → va_D A (ws.set q0 (a, .inl (cA, n, .inl (fun j => bI (va_up f k v j))))) → va_S A H0 H1 locs1 → W p l e R s m args below meth c H1 locs1 cells slots Q (F0 m (pc + 1) ls rest)) : W p l e R s m args below meth c H locs cells slots Q (F0 m pc ls (.int (bI v) :: .int (nI k) :: .ref a :: rest)) :=
  va_zast hx hb hK hP hD hS q0 t0 ha ht (vp_in_nI hk hn) hdg (fun H1 locs1 h1 h2 h3 => by
    rw [nI_clamp (by omega), bI_vn, q_upB] at h1 h2
    exact kk H1 locs1 h1 h2 h3)
theorem qo_ast (hx : p.tables.exec = Jvm.exec) (hb : c.code = cc) (hK : va_K D cl tys s) (hP : va_P D cl ws H) (hD : va_D A ws) (hS : va_S A H0 H locs) (q0 t0 : Nat) {cA : ClassId} {n : Nat} {f : Nat → Option Nat} (ha : ws[q0]? = some (a, .inl (cA, n, .inl (fun j => oI (f j))))) (ht : tys[t0]? = some (cA, .int)) {k : Nat} {v : Nat} (hk : k < n) (hn : n < 2 ^ 31) (hdg : decode cc pc = .ok (.iastore, 1))
    (kk : ∀ (H1 : Heap) (locs1 : List Loc), va_P D cl (ws.set q0 (a, .inl (cA, n, .inl (fun j => oI (va_up f k (some v) j))))) H1 → va_D A (ws.set q0 (a, .inl (cA, n, .inl (fun j => oI (va_up f k (some v) j))))) → va_S A H0 H1 locs1 → W p l e R s m args below meth c H1 locs1 cells slots Q (F0 m (pc + 1) ls rest)) : W p l e R s m args below meth c H locs cells slots Q (F0 m pc ls (.int (nI v) :: .int (nI k) :: .ref a :: rest)) :=
  va_iast hx hb hK hP hD hS q0 t0 ha ht (vp_in_nI hk hn) hdg (fun H1 locs1 h1 h2 h3 => by
    rw [nI_clamp (by omega), q_upO] at h1 h2
    exact kk H1 locs1 h1 h2 h3)
theorem qon_ast (hx : p.tables.exec = Jvm.exec) (hb : c.code = cc) (hK : va_K D cl tys s) (hP : va_P D cl ws H) (hD : va_D A ws) (hS : va_S A H0 H locs) (q0 t0 : Nat) {cA : ClassId} {n : Nat} {f : Nat → Option Nat} (ha : ws[q0]? = some (a, .inl (cA, n, .inl (fun j => oI (f j))))) (ht : tys[t0]? = some (cA, .int)) {k : Nat} (hk : k < n) (hn : n < 2 ^ 31) (hdg : decode cc pc = .ok (.iastore, 1))
    (kk : ∀ (H1 : Heap) (locs1 : List Loc), va_P D cl (ws.set q0 (a, .inl (cA, n, .inl (fun j => oI (va_up f k (none) j))))) H1 → va_D A (ws.set q0 (a, .inl (cA, n, .inl (fun j => oI (va_up f k (none) j))))) → va_S A H0 H1 locs1 → W p l e R s m args below meth c H1 locs1 cells slots Q (F0 m (pc + 1) ls rest)) : W p l e R s m args below meth c H locs cells slots Q (F0 m pc ls (.int ((-1)) :: .int (nI k) :: .ref a :: rest)) :=
  va_iast hx hb hK hP hD hS q0 t0 ha ht (vp_in_nI hk hn) hdg (fun H1 locs1 h1 h2 h3 => by
    rw [nI_clamp (by omega), q_upOn] at h1 h2
    exact kk H1 locs1 h1 h2 h3)
theorem q_cpy (f g : Nat → Nat) (sp dp n : Nat) : va_cpy (fun j => nI (f j)) (fun j => nI (g j)) sp dp n = fun j => nI (va_cpy f g sp dp n j) := by
  funext j
  unfold va_cpy
  split <;> rfl
theorem q_copy (hx : p.tables.exec = Jvm.exec) (hb : c.code = cc) (hml : c.maxLocals = ls.size) {own : String} {index : Nat} (hown : s.vm.findClass own = some m.cls) (hlink : (Cond.methodLink own index arraycopyName).before args s = true) (hnat : (Cond.native arraycopyName).before args s = true) (hstat : (Cond.static arraycopyName).before args s = true) (hini : (Cond.initialized "java/lang/System").before args s = true)
    (hK : va_K D cl tys s) (hP : va_P D cl ws H) (hD : va_D A ws) (hS : va_S A H0 H locs) (q0 t0 : Nat) {cA : ClassId} {n : Nat} {f : Nat → Nat} (ha : ws[q0]? = some (a, .inl (cA, n, .inl (fun j => nI (f j))))) (ht : tys[t0]? = some (cA, .int)) {sp dp k : Nat} (h4 : sp + k ≤ n) (h5 : dp + k ≤ n) (hn : n < 2 ^ 31)
    (hframes : 1 ≤ R.frames) (hlocals : (rest.map fun v => v.category).sum + (nativeFrameWords "java/lang/System" "arraycopy" 5 + 11) ≤ R.locals) (hdg : decode cc pc = .ok (.invokestatic index, 3))
    (kk : ∀ (H1 : Heap) (locs1 : List Loc), va_P D cl (ws.set q0 (a, .inl (cA, n, .inl (fun j => nI (va_cpy f f sp dp k j))))) H1 → va_D A (ws.set q0 (a, .inl (cA, n, .inl (fun j => nI (va_cpy f f sp dp k j))))) → va_S A H0 H1 locs1 → W p l e R s m args below meth c H1 locs1 cells slots Q (F0 m (pc + 3) ls rest)) : W p l e R s m args below meth c H locs cells slots Q (F0 m pc ls (.int (nI k) :: .int (nI dp) :: .ref a :: .int (nI sp) :: .ref a :: rest)) := by
  refine va_copyi hx hb hml hown hlink hnat hstat hini hK hP hD hS q0 q0 t0 t0 ha ha ht ht rfl (nI_pos (by omega)) (nI_pos (by omega)) (nI_pos (by omega)) (by rw [nI_clamp (by omega), nI_clamp (by omega)]; exact h4) (by rw [nI_clamp (by omega), nI_clamp (by omega)]; exact h5) (fun i _ => rfl) hframes hlocals hdg (fun H1 locs1 h1 h2 h3 => ?_)
  rw [nI_clamp (show sp < 2 ^ 31 by omega), nI_clamp (show dp < 2 ^ 31 by omega), nI_clamp (show k < 2 ^ 31 by omega), q_cpy] at h1 h2
  exact kk H1 locs1 h1 h2 h3
end QA
/-- the cells at the places is are replaced -/
def wset : va_W → List Nat → va_W → va_W
  | ws, i :: is, x :: xs => wset (ws.set i x) is xs
  | ws, _, _ => ws
theorem wset_len : ∀ (is : List Nat) (ws xs : va_W), (wset ws is xs).length = ws.length
  | [], ws, xs => by unfold wset; rfl
  | i :: is, ws, [] => by unfold wset; rfl
  | i :: is, ws, x :: xs => by unfold wset; rw [wset_len is, List.length_set]
theorem wset_out : ∀ (is : List Nat) (ws xs : va_W) (k : Nat), k ∉ is → (wset ws is xs)[k]? = ws[k]?
  | [], ws, xs, k, _ => by unfold wset; rfl
  | i :: is, ws, [], k, _ => by unfold wset; rfl
  | i :: is, ws, x :: xs, k, h => by
    unfold wset
    rw [wset_out is (ws.set i x) xs k (fun q => h (List.mem_cons_of_mem _ q))]
    exact List.getElem?_set_ne (fun q => h (by rw [q]; exact List.mem_cons_self))
theorem wset_in : ∀ (is : List Nat) (ws xs : va_W), va_nd is = true → (∀ i ∈ is, i < ws.length) → ∀ (j k : Nat) (q : Nat × va_E), is[j]? = some k → xs[j]? = some q → (wset ws is xs)[k]? = some q
  | [], ws, xs, _, _, j, k, q, h, _ => by simp at h
  | i :: is, ws, [], _, _, j, k, q, _, h => by simp at h
  | i :: is, ws, x :: xs, hn, hl, j, k, q, h1, h2 => by
    unfold wset
    have hi : i ∉ is := by
      intro hm
      obtain ⟨z, hz⟩ := List.getElem?_of_mem hm
      have := va_nd_inj (i :: is) hn 0 (z + 1) i rfl (by simpa using hz)
      omega
    have hn2 : va_nd is = true := by
      unfold va_nd at hn
      simp only [Bool.and_eq_true] at hn
      exact hn.2
    cases j with
    | zero =>
      simp at h1 h2
      subst h1; subst h2
      rw [wset_out is _ xs i hi]
      exact List.getElem?_set_self (hl i List.mem_cons_self)
    | succ j =>
      simp at h1 h2
      exact wset_in is (ws.set i x) xs hn2 (fun z hz => by rw [List.length_set]; exact hl z (List.mem_cons_of_mem _ hz)) j k q h1 h2
theorem q_at {ws w0 : va_W} {is : List Nat} (hC : is.map (fun i => ws[i]?) = w0.map some) {j k : Nat} (hj : is[j]? = some k) : ∃ q, w0[j]? = some q ∧ ws[k]? = some q := by
  have h1 : (is.map (fun i => ws[i]?))[j]? = some ws[k]? := by rw [List.getElem?_map, hj]; rfl
  rw [hC, List.getElem?_map] at h1
  cases hw : w0[j]? with
  | none => rw [hw] at h1; simp at h1
  | some q => rw [hw] at h1; exact ⟨q, rfl, (Option.some.inj h1).symm⟩
theorem wset_addr {ws w0 w1 : va_W} {is : List Nat} (hC : is.map (fun i => ws[i]?) = w0.map some) (hn : va_nd is = true) (hs : w1.map (·.1) = w0.map (·.1)) (k : Nat) : ((wset ws is w1)[k]?).map (·.1) = (ws[k]?).map (·.1) := by
  by_cases hk : k ∈ is
  · obtain ⟨j, hj⟩ := List.getElem?_of_mem hk
    obtain ⟨q, h1, h2⟩ := q_at hC hj
    have hl : ∀ i ∈ is, i < ws.length := by
      intro i hi
      obtain ⟨j2, hj2⟩ := List.getElem?_of_mem hi
      obtain ⟨q2, -, h4⟩ := q_at hC hj2
      exact (List.getElem?_eq_some_iff.mp h4).1
    have h3 : (w1.map (·.1))[j]? = some q.1 := by rw [hs, List.getElem?_map, h1]; rfl
    rw [List.getElem?_map] at h3
    cases h5 : w1[j]? with
    | none => rw [h5] at h3; simp at h3
    | some q1 =>
      rw [h5] at h3
      rw [wset_in is ws w1 hn hl j k q1 hj h5, h2]
      exact h3
  · rw [wset_out is ws w1 k hk]
theorem va_D.addr {A : Nat → Prop} {ws ws' : va_W} (hD : va_D A ws) (h : ∀ k : Nat, (ws'[k]?).map (·.1) = (ws[k]?).map (·.1)) : va_D A ws' := by
  have go : ∀ (k : Nat) (q : Nat × va_E), ws'[k]? = some q → ∃ q', ws[k]? = some q' ∧ q'.1 = q.1 := by
    intro k q hq
    have h1 := h k
    rw [hq] at h1
    cases h2 : ws[k]? with
    | none => rw [h2] at h1; simp at h1
    | some q' => rw [h2] at h1; exact ⟨q', rfl, by simpa using h1.symm⟩
  refine ⟨fun i j x y hx hy hxy => ?_, fun k q hq => ?_⟩
  · obtain ⟨x', h1, h2⟩ := go i x hx
    obtain ⟨y', h3, h4⟩ := go j y hy
    exact hD.1 i j x' y' h1 h3 (by rw [h2, h4, hxy])
  · obtain ⟨q', h1, h2⟩ := go k q hq
    rw [← h2]
    exact hD.2 k q' h1
/-- behind a call that keeps its cells at their places: the caller's world with the callee's cells put back -/
theorem q_put {A : Nat → Prop} {D : va_G} {cl : List vw_C} {ws w0 w1 : va_W} {H H1 : Heap} (hP : va_P D cl ws H) (hD : va_D A ws) (is : List Nat) (hC : is.map (fun i => ws[i]?) = w0.map some) (hn : va_nd is = true) (hs : w1.map (·.1) = w0.map (·.1))
    (hk : ∀ q : Nat, q < H.size → ¬ va_A w0 H.size q → H1[q]? = H[q]?) (hP1 : va_P D cl w1 H1) : va_P D cl (wset ws is w1) H1 ∧ va_D A (wset ws is w1) := by
  refine ⟨fun k q hq => ?_, hD.addr (fun k => wset_addr hC hn hs k)⟩
  by_cases hm : k ∈ is
  · obtain ⟨j, hj⟩ := List.getElem?_of_mem hm
    obtain ⟨q0, h1, h2⟩ := q_at hC hj
    have hl : ∀ i ∈ is, i < ws.length := by
      intro i hi
      obtain ⟨j2, hj2⟩ := List.getElem?_of_mem hi
      obtain ⟨q2, -, h4⟩ := q_at hC hj2
      exact (List.getElem?_eq_some_iff.mp h4).1
    have h3 : (w1.map (·.1))[j]? = some q0.1 := by rw [hs, List.getElem?_map, h1]; rfl
    rw [List.getElem?_map] at h3
    cases h5 : w1[j]? with
    | none => rw [h5] at h3; simp at h3
    | some q1 =>
      rw [wset_in is ws w1 hn hl j k q1 hj h5] at hq
      cases hq
      exact hP1 j q h5
  · rw [wset_out is ws w1 k hm] at hq
    refine (hP k q hq).kept (hk q.1 (hP k q hq).lt (fun h => ?_))
    rcases h with ⟨j, e, h⟩ | h
    · obtain ⟨i, h1, h2⟩ := va_in_of is hC h
      have := hD.1 k i q (q.1, e) hq h2 rfl
      subst this
      exact hm (List.mem_of_getElem? h1)
    · have := (hP k q hq).lt
      omega
abbrev q_Pm (D : va_G) (cl : List vw_C) (tys : List (ClassId × FieldType)) (av : List Value) (w0 : va_W) (sz : Nat) : Array Value → State → Prop := va_Pc av (fun U => U.heap.size = sz ∧ va_P D cl w0 U.heap ∧ va_K D cl tys U ∧ va_D (fun _ => True) w0 ∧ zN U ∧ oN (va_A w0 sz) U)
abbrev q_Pp (D : va_G) (cl : List vw_C) (tys : List (ClassId × FieldType)) (av : List Value) (w0 : va_W) : Array Value → State → Prop := va_Pc av (fun U => va_P D cl w0 U.heap ∧ va_K D cl tys U ∧ zN U)
/-- a contract of a method that answers r and writes nothing -/
abbrev q_CP (l : Launch) (D : va_G) (cl : List vw_C) (tys : List (ClassId × FieldType)) (y : MethodName) (ws : List Cond) (rm : Room) (av : List Value) (w0 : va_W) (r : Int32) : Prop := Met l y ws rm (q_Pp D cl tys av w0) (vp_Si (fun z => z = r)) 0 0 (fun _ => False)
/-- a contract of a method that answers an int and leaves w1 of w0, each cell at its place -/
abbrev q_CI (l : Launch) (D : va_G) (cl : List vw_C) (tys : List (ClassId × FieldType)) (y : MethodName) (ws : List Cond) (rm : Room) (av : List Value) (w0 : va_W) {S : Type} (post : Int32 → S → Prop) (w1 : S → va_W) : Prop := ∀ sz : Nat, Met l y ws rm (q_Pm D cl tys av w0 sz) (va_Qi post (fun u t => va_P D cl (w1 u) t.heap) (va_A w0 sz)) 0 0 (va_A w0 sz)
abbrev q_CV (l : Launch) (D : va_G) (cl : List vw_C) (tys : List (ClassId × FieldType)) (y : MethodName) (ws : List Cond) (rm : Room) (av : List Value) (w0 : va_W) {S : Type} (post : S → Prop) (w1 : S → va_W) : Prop := ∀ sz : Nat, Met l y ws rm (q_Pm D cl tys av w0 sz) (va_Qv post (fun u t => va_P D cl (w1 u) t.heap) (va_A w0 sz)) 0 0 (va_A w0 sz)
theorem q_blindM {D : va_G} {cl : List vw_C} {tys : List (ClassId × FieldType)} {av : List Value} {w0 : va_W} {sz : Nat} : FrameBlind (q_Pm D cl tys av w0 sz) := fun a U g mk q => by
  obtain ⟨q0, q1, qP, qK, qD, qZ, qO⟩ := q
  exact ⟨q0, q1, qP, va_K.moved (u := U) (U := U.calling g mk a) (Vm.Alike.refl U.vm) qK, qD, zN.same (u := U) (U := U.calling g mk a) rfl qZ, oN.go (s := U) (U := U.calling g mk a) qO va_S.rf rfl (Vm.Alike.refl U.vm) (fun _ h => h)⟩
theorem q_blindP {D : va_G} {cl : List vw_C} {tys : List (ClassId × FieldType)} {av : List Value} {w0 : va_W} : FrameBlind (q_Pp D cl tys av w0) := fun a U g mk q => by
  obtain ⟨q0, qP, qK, qZ⟩ := q
  exact ⟨q0, qP, va_K.moved (u := U) (U := U.calling g mk a) (Vm.Alike.refl U.vm) qK, zN.same (u := U) (U := U.calling g mk a) rfl qZ⟩
theorem q_cut {D : va_G} {cl : List vw_C} {ws w0 : va_W} {H : Heap} (hP : va_P D cl ws H) (is : List Nat) (hC : is.map (fun i => ws[i]?) = w0.map some) : va_P D cl w0 H := fun k q hq => by
  obtain ⟨i, -, h2⟩ := va_in_of is hC hq
  exact hP i q h2
theorem q_preM {s : State} {H : Heap} {D : va_G} {cl : List vw_C} {tys : List (ClassId × FieldType)} {A : Nat → Prop} {ws w0 : va_W} {av : List Value} (hK : va_K D cl tys s) (hZ : zN s) {locs : List Loc} (hO : oN A s) (hS : va_S A s.heap H locs) (hA : ∀ q, s.heap.size ≤ q → A q) (hP : va_P D cl ws H) (hD : va_D A ws) (is : List Nat) (hC : is.map (fun i => ws[i]?) = w0.map some) (hn : va_nd is = true) : PreS s H (q_Pm D cl tys av w0 H.size) av :=
  ⟨q_blindM, fun U hU hW => ⟨rfl, by rw [hU], by rw [hU]; exact q_cut hP is hC, va_K.moved hW.alike hK, (hD.sub is hn hC).weaken (fun _ _ _ _ => trivial), hZ.warm hW, hO.go hS hU hW.alike (va_free hD hS hA is hC)⟩⟩
theorem q_preMV {s : State} {H : Heap} {D : va_G} {cl : List vw_C} {tys : List (ClassId × FieldType)} {A : Nat → Prop} {ws w0 : va_W} {As : List Value} {b ci N : Nat} {C : String} {T : u_T} {fs : List Value} (hK : va_K D cl tys s) (hZ : zN s) {locs : List Loc} (hO : oN A s) (hS : va_S A s.heap H locs) (hA : ∀ q, s.heap.size ≤ q → A q) (hP : va_P D cl ws H) (hD : va_D A ws) (is : List Nat) (hC : is.map (fun i => ws[i]?) = w0.map some) (hn : va_nd is = true) (hc : cl[ci]? = some (C, T, N)) (he : w0[0]? = some (b, .inr (ci, fs))) : PreV s H C b (q_Pm D cl tys (.ref b :: As) w0 H.size) As :=
  ⟨q_blindM, va_recv hK (q_cut hP is hC) hc he, fun U hU hW => ⟨rfl, by rw [hU], by rw [hU]; exact q_cut hP is hC, va_K.moved hW.alike hK, (hD.sub is hn hC).weaken (fun _ _ _ _ => trivial), hZ.warm hW, hO.go hS hU hW.alike (va_free hD hS hA is hC)⟩⟩
theorem q_preP {s : State} {H : Heap} {D : va_G} {cl : List vw_C} {tys : List (ClassId × FieldType)} {ws w0 : va_W} {av : List Value} (hK : va_K D cl tys s) (hZ : zN s) (hP : va_P D cl ws H) (is : List Nat) (hC : is.map (fun i => ws[i]?) = w0.map some) : PreS s H (q_Pp D cl tys av w0) av :=
  ⟨q_blindP, fun U hU hW => ⟨rfl, by rw [hU]; exact q_cut hP is hC, va_K.moved hW.alike hK, hZ.warm hW⟩⟩
theorem q_prePV {s : State} {H : Heap} {D : va_G} {cl : List vw_C} {tys : List (ClassId × FieldType)} {ws w0 : va_W} {As : List Value} {b ci N : Nat} {C : String} {T : u_T} {fs : List Value} (hK : va_K D cl tys s) (hZ : zN s) (hP : va_P D cl ws H) (is : List Nat) (hC : is.map (fun i => ws[i]?) = w0.map some) (hc : cl[ci]? = some (C, T, N)) (he : w0[0]? = some (b, .inr (ci, fs))) : PreV s H C b (q_Pp D cl tys (.ref b :: As) w0) As :=
  ⟨q_blindP, va_recv hK (q_cut hP is hC) hc he, fun U hU hW => ⟨rfl, by rw [hU]; exact q_cut hP is hC, va_K.moved hW.alike hK, hZ.warm hW⟩⟩
section QC
variable {p : Program} {l : Launch} {e : Env} {R : Room} {s : State} {m : MethodId} {args : Array Value} {below : List Frame} {meth : Method} {c : Code} {H : Heap} {locs : List Loc} {cells slots : Nat} {Q : State → Prop}
variable {pc : Nat} {ls : Array Slot} {rest st0 : List Value} {a : Array Value} {A : Nat → Prop} {H0 : Heap} {D : va_G} {cl : List vw_C} {ws w0 : va_W} {S : Type} {w1 : S → va_W}
theorem q_calli {post : Int32 → S → Prop} (hr : va_Run p l e R s m args below meth c H locs cells slots 0 0 (F0 m pc ls st0) rest (va_Qi post (fun u t => va_P D cl (w1 u) t.heap) (va_A w0 H.size) a) (va_A w0 H.size))
    (hP : va_P D cl ws H) (hD : va_D A ws) (hS : va_S A H0 H locs) (hA : ∀ q, H0.size ≤ q → A q) (is : List Nat) (hC : is.map (fun i => ws[i]?) = w0.map some) (hn : va_nd is = true) (hs : ∀ u, (w1 u).map (·.1) = w0.map (·.1))
    (kk : ∀ (r : Int32) (u : S) (H1 : Heap) (locs1 : List Loc), post r u → va_P D cl (wset ws is (w1 u)) H1 → va_D A (wset ws is (w1 u)) → va_S A H0 H1 locs1 → W p l e R s m args below meth c H1 locs1 cells slots Q (F0 m (pc + 3) ls (.int r :: rest))) : W p l e R s m args below meth c H locs cells slots Q (F0 m pc ls st0) := by
  have hF := va_free hD hS hA is hC
  refine va_calli hr hS (fun q _ h => hF q h) hF (fun r u t H1 locs1 ht hvm hp hB hz hk hS1 => ?_)
  rw [ht] at hB
  obtain ⟨h1, h2⟩ := q_put hP hD is hC hn (hs u) hk hB
  exact kk r u H1 locs1 hp h1 h2 hS1
theorem q_callv {post : S → Prop} (hr : va_Run p l e R s m args below meth c H locs cells slots 0 0 (F0 m pc ls st0) rest (va_Qv post (fun u t => va_P D cl (w1 u) t.heap) (va_A w0 H.size) a) (va_A w0 H.size))
    (hP : va_P D cl ws H) (hD : va_D A ws) (hS : va_S A H0 H locs) (hA : ∀ q, H0.size ≤ q → A q) (is : List Nat) (hC : is.map (fun i => ws[i]?) = w0.map some) (hn : va_nd is = true) (hs : ∀ u, (w1 u).map (·.1) = w0.map (·.1))
    (kk : ∀ (u : S) (H1 : Heap) (locs1 : List Loc), post u → va_P D cl (wset ws is (w1 u)) H1 → va_D A (wset ws is (w1 u)) → va_S A H0 H1 locs1 → W p l e R s m args below meth c H1 locs1 cells slots Q (F0 m (pc + 3) ls rest)) : W p l e R s m args below meth c H locs cells slots Q (F0 m pc ls st0) := by
  have hF := va_free hD hS hA is hC
  refine va_callv hr hS (fun q _ h => hF q h) hF (fun u t H1 locs1 ht hvm hp hB hz hk hS1 => ?_)
  rw [ht] at hB
  obtain ⟨h1, h2⟩ := q_put hP hD is hC hn (hs u) hk hB
  exact kk u H1 locs1 hp h1 h2 hS1
end QC
/-- a method that writes nothing, from its entry -/
theorem q_entP {l : Launch} {y : MethodName} {ws ws' : List Cond} {rm : Room} {av : List Value} {D : va_G} {cl : List vw_C} {tys : List (ClassId × FieldType)} {w0 : va_W} {cc : ByteArray} {maxL : Nat} {ty : FieldType} {r : Int32} (own : String)
    (hy : plainName y.cls = true) (hw : ws = Cond.code y cc maxL (some ty) :: ws') (hn : narrow ty (.int r) = .int r) (ho : y.cls = own) (hlen : (lg_sl av).length ≤ maxL)
    (body : ∀ (p : Program) (e : Env) (s : State) (m : MethodId) (below : List Frame) (meth : Method) (c : Code) (ls : Array Slot) (Q : State → Prop), p.tables.exec = Jvm.exec → c.code = cc → c.maxLocals = maxL → (∀ w ∈ ws, w.before av.toArray s = true) → s.vm.findClass own = some m.cls → va_P D cl w0 s.heap → va_K D cl tys s → zN s → lv_has ls maxL (lv_args 0 av) →
      (∀ (pc : Nat) (ls : Array Slot), decode cc pc = .ok (.ireturn, 1) → W p l e (headSpec ws rm).room s m av.toArray below meth c s.heap [] 0 0 Q (F0 m pc ls [.int r])) →
      W p l e (headSpec ws rm).room s m av.toArray below meth c s.heap [] 0 0 Q (F0 m 0 ls [])) : q_CP l D cl tys y ws rm av w0 r := by
  refine Met.ofW (cc := cc) (maxL := maxL) (ret := some ty) hy hw ?_
  intro p e s m args below meth c s₁ B hml hv
  obtain ⟨rfl, hP, hK, hZ⟩ := hv
  have hr := B.returns
  have hts := atoms_spec (ws := ws) B.pre
  have hown : s.vm.findClass own = some m.cls := by rw [← ho]; exact findClass_of_methodNamed B.named
  have hlocks := B.notSynchronized
  have hl := lv_entry av (n := maxL) hlen
  rw [lg_entry_eq]
  generalize (lg_sl av ++ List.replicate (maxL - (lg_sl av).length) Slot.unset).toArray = ls at hl ⊢
  exact body p e s m below meth c ls _ B.exec B.bytes hml hts hown hP hK hZ hl (fun pc ls hd => W.zret B.exec B.bytes hr hn (fun t ht hW => ⟨r, rfl, rfl, ht⟩) (fun q hq => by cases hq) hd)
/-- a method that answers an int and writes its own cells, from its entry -/
theorem q_entI {l : Launch} {y : MethodName} {ws ws' : List Cond} {rm : Room} {av : List Value} {D : va_G} {cl : List vw_C} {tys : List (ClassId × FieldType)} {w0 : va_W} {cc : ByteArray} {maxL : Nat} {ty : FieldType} {S : Type} {post : Int32 → S → Prop} {w1 : S → va_W} (own : String)
    (hy : plainName y.cls = true) (hw : ws = Cond.code y cc maxL (some ty) :: ws') (hn : ∀ r u, post r u → narrow ty (.int r) = .int r) (ho : y.cls = own) (hlen : (lg_sl av).length ≤ maxL)
    (body : ∀ (p : Program) (e : Env) (s : State) (m : MethodId) (below : List Frame) (meth : Method) (c : Code) (ls : Array Slot) (Q : State → Prop) (A : Nat → Prop), p.tables.exec = Jvm.exec → c.code = cc → c.maxLocals = maxL → (∀ w ∈ ws, w.before av.toArray s = true) → s.vm.findClass own = some m.cls → va_P D cl w0 s.heap → va_D A w0 → va_K D cl tys s → zN s → oN A s → (∀ q, s.heap.size ≤ q → A q) → va_S A s.heap s.heap [] → lv_has ls maxL (lv_args 0 av) →
      (∀ (r : Int32) (u : S) (pc : Nat) (ls : Array Slot) (H : Heap) (locs : List Loc), decode cc pc = .ok (.ireturn, 1) → post r u → va_P D cl (w1 u) H → va_S A s.heap H locs → W p l e (headSpec ws rm).room s m av.toArray below meth c H locs 0 0 Q (F0 m pc ls [.int r])) →
      W p l e (headSpec ws rm).room s m av.toArray below meth c s.heap [] 0 0 Q (F0 m 0 ls [])) : q_CI l D cl tys y ws rm av w0 post w1 := by
  intro sz
  refine Met.ofW (cc := cc) (maxL := maxL) (ret := some ty) hy hw ?_
  intro p e s m args below meth c s₁ B hml hv
  obtain ⟨rfl, hsz, hP, hK, hD0, hZ, hO⟩ := hv
  subst hsz
  have hr := B.returns
  have hts := atoms_spec (ws := ws) B.pre
  have hown : s.vm.findClass own = some m.cls := by rw [← ho]; exact findClass_of_methodNamed B.named
  have hlocks := B.notSynchronized
  have hD := hD0.self (sz := s.heap.size)
  have hl := lv_entry av (n := maxL) hlen
  rw [lg_entry_eq]
  generalize (lg_sl av ++ List.replicate (maxL - (lg_sl av).length) Slot.unset).toArray = ls at hl ⊢
  exact body p e s m below meth c ls _ _ B.exec B.bytes hml hts hown hP hD hK hZ hO (fun q h => Or.inr h) va_S.rf hl (fun r u pc ls H locs hd hp h1 hS => W.zret B.exec B.bytes hr (hn r u hp) (fun t ht hW => ⟨⟨r, u, rfl, hp, by show va_P D cl (w1 u) t.heap; rw [ht]; exact h1⟩, hS.F ht⟩) hS.2.2 hd)
/-- a method that answers nothing and writes its own cells, from its entry -/
theorem q_entV {l : Launch} {y : MethodName} {ws ws' : List Cond} {rm : Room} {av : List Value} {D : va_G} {cl : List vw_C} {tys : List (ClassId × FieldType)} {w0 : va_W} {cc : ByteArray} {maxL : Nat} {S : Type} {post : S → Prop} {w1 : S → va_W} (own : String)
    (hy : plainName y.cls = true) (hw : ws = Cond.code y cc maxL none :: ws') (ho : y.cls = own) (hlen : (lg_sl av).length ≤ maxL)
    (body : ∀ (p : Program) (e : Env) (s : State) (m : MethodId) (below : List Frame) (meth : Method) (c : Code) (ls : Array Slot) (Q : State → Prop) (A : Nat → Prop), p.tables.exec = Jvm.exec → c.code = cc → c.maxLocals = maxL → (∀ w ∈ ws, w.before av.toArray s = true) → s.vm.findClass own = some m.cls → va_P D cl w0 s.heap → va_D A w0 → va_K D cl tys s → zN s → oN A s → (∀ q, s.heap.size ≤ q → A q) → va_S A s.heap s.heap [] → lv_has ls maxL (lv_args 0 av) →
      (∀ (u : S) (pc : Nat) (ls : Array Slot) (H : Heap) (locs : List Loc), decode cc pc = .ok (.return_, 1) → post u → va_P D cl (w1 u) H → va_S A s.heap H locs → W p l e (headSpec ws rm).room s m av.toArray below meth c H locs 0 0 Q (F0 m pc ls [])) →
      W p l e (headSpec ws rm).room s m av.toArray below meth c s.heap [] 0 0 Q (F0 m 0 ls [])) : q_CV l D cl tys y ws rm av w0 post w1 := by
  intro sz
  refine Met.ofW (cc := cc) (maxL := maxL) (ret := none) hy hw ?_
  intro p e s m args below meth c s₁ B hml hv
  obtain ⟨rfl, hsz, hP, hK, hD0, hZ, hO⟩ := hv
  subst hsz
  have hr := B.returns
  have hts := atoms_spec (ws := ws) B.pre
  have hown : s.vm.findClass own = some m.cls := by rw [← ho]; exact findClass_of_methodNamed B.named
  have hlocks := B.notSynchronized
  have hD := hD0.self (sz := s.heap.size)
  have hl := lv_entry av (n := maxL) hlen
  rw [lg_entry_eq]
  generalize (lg_sl av ++ List.replicate (maxL - (lg_sl av).length) Slot.unset).toArray = ls at hl ⊢
  exact body p e s m below meth c ls _ _ B.exec B.bytes hml hts hown hP hD hK hZ hO (fun q h => Or.inr h) va_S.rf hl (fun u pc ls H locs hd hp h1 hS => W.vret B.exec B.bytes hr (fun t ht hW => ⟨⟨u, rfl, hp, by show va_P D cl (w1 u) t.heap; rw [ht]; exact h1⟩, hS.F ht⟩) hS.2.2 hd)
/-- a contract of a constructor: w1 of w0, with cells that it makes -/
abbrev q_CN (l : Launch) (D : va_G) (cl : List vw_C) (tys : List (ClassId × FieldType)) (y : MethodName) (ws : List Cond) (rm : Room) (av : List Value) (w0 : va_W) (mc ms : Nat) {S : Type} (post : S → Prop) (w1 : S → va_W) : Prop := ∀ sz : Nat, Met l y ws rm (q_Pm D cl tys av w0 sz) (va_Qv post (fun u t => va_P D cl (w1 u) t.heap ∧ va_D (va_A w0 sz) (w1 u)) (va_A w0 sz)) mc ms (va_A w0 sz)
theorem q_entN {l : Launch} {y : MethodName} {ws ws' : List Cond} {rm : Room} {av : List Value} {D : va_G} {cl : List vw_C} {tys : List (ClassId × FieldType)} {w0 : va_W} {cc : ByteArray} {maxL mc ms : Nat} {S : Type} {post : S → Prop} {w1 : S → va_W} (own : String)
    (hy : plainName y.cls = true) (hw : ws = Cond.code y cc maxL none :: ws') (ho : y.cls = own ∧ y.name = "<init>") (hlen : (lg_sl av).length ≤ maxL)
    (body : ∀ (p : Program) (e : Env) (s : State) (m : MethodId) (below : List Frame) (meth : Method) (c : Code) (ls : Array Slot) (Q : State → Prop) (A : Nat → Prop), p.tables.exec = Jvm.exec → c.code = cc → c.maxLocals = maxL → (∀ w ∈ ws, w.before av.toArray s = true) → s.vm.findClass own = some m.cls → meth.name = "<init>" → va_P D cl w0 s.heap → va_D A w0 → va_K D cl tys s → zN s → oN A s → (∀ q, s.heap.size ≤ q → A q) → va_S A s.heap s.heap [] → lv_has ls maxL (lv_args 0 av) →
      (∀ (u : S) (pc : Nat) (ls : Array Slot) (H : Heap) (locs : List Loc), decode cc pc = .ok (.return_, 1) → post u → va_P D cl (w1 u) H → va_D A (w1 u) → va_S A s.heap H locs → W p l e (headSpec ws rm).room s m av.toArray below meth c H locs mc ms Q (F0 m pc ls [])) →
      W p l e (headSpec ws rm).room s m av.toArray below meth c s.heap [] 0 0 Q (F0 m 0 ls [])) : q_CN l D cl tys y ws rm av w0 mc ms post w1 := by
  intro sz
  refine Met.ofW (cc := cc) (maxL := maxL) (ret := none) hy hw ?_
  intro p e s m args below meth c s₁ B hml hv
  obtain ⟨rfl, hsz, hP, hK, hD0, hZ, hO⟩ := hv
  subst hsz
  have hr := B.returns
  have hts := atoms_spec (ws := ws) B.pre
  have hown : s.vm.findClass own = some m.cls := by rw [← ho.1]; exact findClass_of_methodNamed B.named
  have hin : meth.name = "<init>" := by rw [← ho.2]; exact (name_of_methodNamed B.named B.method).1
  have hlocks := B.notSynchronized
  have hD := hD0.self (sz := s.heap.size)
  have hl := lv_entry av (n := maxL) hlen
  rw [lg_entry_eq]
  generalize (lg_sl av ++ List.replicate (maxL - (lg_sl av).length) Slot.unset).toArray = ls at hl ⊢
  exact body p e s m below meth c ls _ _ B.exec B.bytes hml hts hown hin hP hD hK hZ hO (fun q h => Or.inr h) va_S.rf hl (fun u pc ls H locs hd hp h1 h2 hS => W.vret B.exec B.bytes hr (fun t ht hW => ⟨⟨u, rfl, hp, by show va_P D cl (w1 u) t.heap; rw [ht]; exact h1, h2⟩, hS.F ht⟩) hS.2.2 hd)
section QN2
variable {p : Program} {l : Launch} {e : Env} {R : Room} {s : State} {m : MethodId} {args : Array Value} {below : List Frame} {meth : Method} {c : Code} {H : Heap} {locs : List Loc} {cells slots : Nat} {Q : State → Prop}
variable {pc : Nat} {ls : Array Slot} {rest st0 : List Value} {a : Array Value} {A : Nat → Prop} {H0 : Heap} {D : va_G} {cl : List vw_C} {ws w0 wr : va_W} {S : Type} {w1 : S → va_W} {mc ms : Nat} {cc : ByteArray}
theorem q_calln {post : S → Prop} (hr : va_Run p l e R s m args below meth c H locs cells slots mc ms (F0 m pc ls st0) rest (va_Qv post (fun u t => va_P D cl (w1 u) t.heap ∧ va_D (va_A w0 H.size) (w1 u)) (va_A w0 H.size) a) (va_A w0 H.size))
    (hP : va_P D cl ws H) (hD : va_D A ws) (hS : va_S A H0 H locs) (hA : ∀ q, H0.size ≤ q → A q) (is isR : List Nat) (hC : is.map (fun i => ws[i]?) = w0.map some) (hR : isR.map (fun i => ws[i]?) = wr.map some) (hn : va_nd isR = true) (hdis : ∀ i ∈ isR, i ∉ is)
    (kk : ∀ (u : S) (H1 : Heap) (locs1 : List Loc), post u → va_P D cl (wr ++ w1 u) H1 → va_D A (wr ++ w1 u) → va_S A H0 H1 locs1 → W p l e R s m args below meth c H1 locs1 (cells + mc) (slots + ms) Q (F0 m (pc + 3) ls rest)) : W p l e R s m args below meth c H locs cells slots Q (F0 m pc ls st0) := by
  have hF := va_free hD hS hA is hC
  refine va_callv hr hS (fun q _ h => hF q h) hF (fun u t H1 locs1 ht hvm hp hB hz hk hS1 => ?_)
  obtain ⟨hB1, hB2⟩ := hB
  rw [ht] at hB1
  obtain ⟨h1, h2⟩ := va_join hP hD is isR hC hR hn hdis hk hF hB1 hB2
  exact kk u H1 locs1 hp h1 h2 hS1
end QN2
def m_z : Nat → Nat := fun _ => 0
def m_f : Nat → Bool := fun _ => false
def m_zl : Nat → Int64 := fun _ => 0
theorem nI_nat {k : Nat} (h : k < 2 ^ 31) : (nI k).toNatClampNeg = k := Int32.toNatClampNeg_ofNat_of_lt h
section QA2
variable {p : Program} {l : Launch} {e : Env} {R : Room} {s : State} {m : MethodId} {args : Array Value} {below : List Frame} {meth : Method} {c : Code} {H : Heap} {locs : List Loc} {cells slots : Nat} {Q : State → Prop}
variable {cc : ByteArray} {pc : Nat} {ls : Array Slot} {rest : List Value} {D : va_G} {cl : List vw_C} {ws : va_W} {A : Nat → Prop} {H0 : Heap} {cI cZ cL : ClassId}
theorem q_ord (hx : p.tables.exec = Jvm.exec) (hb : c.code = cc) {t : Nat} (hT : va_T .int t 20 ordV A s s.heap) (hS : va_S A s.heap H locs) {k : Nat} (hk : k < 20) (hdg : decode cc pc = .ok (.iaload, 1))
    (kk : W p l e R s m args below meth c H locs cells slots Q (F0 m (pc + 1) ls (.int (nI (m_ord k)) :: rest))) : W p l e R s m args below meth c H locs cells slots Q (F0 m pc ls (.int (nI k) :: .ref t :: rest)) :=
  va_ti hx hb hT hS (i := nI k) (fun h => by
    rcases h with h | h
    · exact absurd h (nI_pos (by omega))
    · rw [nI_nat (by omega)] at h; omega) (by rw [nI_nat (by omega)]; rfl) hdg kk

theorem q_newai (hx : p.tables.exec = Jvm.exec) (hb : c.code = cc) (harr : (Cond.arrayClass .int).before args s = true) (hK : va_K D cl [(cI, .int), (cZ, .boolean), (cL, .long)] s) (hP : va_P D cl ws H) (hD : va_D A ws) (hS : va_S A H0 H locs) (hA : ∀ q, H0.size ≤ q → A q)
    {k : Nat} (hk : k < 2 ^ 25) (hcells : cells + 1 ≤ R.cells) (hslots : slots + k ≤ R.slots) (hdg : decode cc pc = .ok (.newarray .int, 2))
    (kk : ∀ (q : Nat) (H1 : Heap), va_P D cl (ws ++ [(q, .inl (cI, k, .inl (fun j => nI (m_z j))))]) H1 → va_D A (ws ++ [(q, .inl (cI, k, .inl (fun j => nI (m_z j))))]) → va_S A H0 H1 locs → W p l e R s m args below meth c H1 locs (cells + 1) (slots + k) Q (F0 m (pc + 2) ls (.ref q :: rest))) : W p l e R s m args below meth c H locs cells slots Q (F0 m pc ls (.int (nI k) :: rest)) := by
  refine va_newa hx hb (atype := .int) (ty := .int) harr rfl hK hP hD hS hA (N' := k) (a0 := (k, .inl (fun j => nI (m_z j)))) (fun cA => rfl) (nI_pos (by omega)) (nI_nat (by omega)) (by show k * _ ≤ _; simp only [componentBytes]; omega) hcells hslots hdg (fun q cA H1 hK1 hP1 hD1 hS1 => ?_)
  have e1 : va_RA s cA .int := (hK1.2 3 (cA, .int) rfl).2
  have e2 : va_RA s cI .int := (hK.2 0 (cI, .int) rfl).2
  have e3 : cA = cI := Option.some.inj (e1.symm.trans e2)
  subst e3
  exact kk q H1 hP1 hD1 hS1
theorem q_newab (hx : p.tables.exec = Jvm.exec) (hb : c.code = cc) (harr : (Cond.arrayClass .boolean).before args s = true) (hK : va_K D cl [(cI, .int), (cZ, .boolean), (cL, .long)] s) (hP : va_P D cl ws H) (hD : va_D A ws) (hS : va_S A H0 H locs) (hA : ∀ q, H0.size ≤ q → A q)
    {k : Nat} (hk : k < 2 ^ 25) (hcells : cells + 1 ≤ R.cells) (hslots : slots + k ≤ R.slots) (hdg : decode cc pc = .ok (.newarray .boolean, 2))
    (kk : ∀ (q : Nat) (H1 : Heap), va_P D cl (ws ++ [(q, .inl (cZ, k, .inl (fun j => bI (m_f j))))]) H1 → va_D A (ws ++ [(q, .inl (cZ, k, .inl (fun j => bI (m_f j))))]) → va_S A H0 H1 locs → W p l e R s m args below meth c H1 locs (cells + 1) (slots + k) Q (F0 m (pc + 2) ls (.ref q :: rest))) : W p l e R s m args below meth c H locs cells slots Q (F0 m pc ls (.int (nI k) :: rest)) := by
  refine va_newa hx hb (atype := .boolean) (ty := .boolean) harr rfl hK hP hD hS hA (N' := k) (a0 := (k, .inl (fun j => bI (m_f j)))) (fun cA => rfl) (nI_pos (by omega)) (nI_nat (by omega)) (by show k * _ ≤ _; simp only [componentBytes]; omega) hcells hslots hdg (fun q cA H1 hK1 hP1 hD1 hS1 => ?_)
  have e1 : va_RA s cA .boolean := (hK1.2 3 (cA, .boolean) rfl).2
  have e2 : va_RA s cZ .boolean := (hK.2 1 (cZ, .boolean) rfl).2
  have e3 : cA = cZ := Option.some.inj (e1.symm.trans e2)
  subst e3
  exact kk q H1 hP1 hD1 hS1
theorem q_newal (hx : p.tables.exec = Jvm.exec) (hb : c.code = cc) (harr : (Cond.arrayClass .long).before args s = true) (hK : va_K D cl [(cI, .int), (cZ, .boolean), (cL, .long)] s) (hP : va_P D cl ws H) (hD : va_D A ws) (hS : va_S A H0 H locs) (hA : ∀ q, H0.size ≤ q → A q)
    {k : Nat} (hk : k < 2 ^ 25) (hcells : cells + 1 ≤ R.cells) (hslots : slots + k ≤ R.slots) (hdg : decode cc pc = .ok (.newarray .long, 2))
    (kk : ∀ (q : Nat) (H1 : Heap), va_P D cl (ws ++ [(q, .inl (cL, k, .inr (.inl m_zl)))]) H1 → va_D A (ws ++ [(q, .inl (cL, k, .inr (.inl m_zl)))]) → va_S A H0 H1 locs → W p l e R s m args below meth c H1 locs (cells + 1) (slots + k) Q (F0 m (pc + 2) ls (.ref q :: rest))) : W p l e R s m args below meth c H locs cells slots Q (F0 m pc ls (.int (nI k) :: rest)) := by
  refine va_newa hx hb (atype := .long) (ty := .long) harr rfl hK hP hD hS hA (N' := k) (a0 := (k, .inr (.inl m_zl))) (fun cA => rfl) (nI_pos (by omega)) (nI_nat (by omega)) (by show k * _ ≤ _; simp only [componentBytes]; omega) hcells hslots hdg (fun q cA H1 hK1 hP1 hD1 hS1 => ?_)
  have e1 : va_RA s cA .long := (hK1.2 3 (cA, .long) rfl).2
  have e2 : va_RA s cL .long := (hK.2 2 (cL, .long) rfl).2
  have e3 : cA = cL := Option.some.inj (e1.symm.trans e2)
  subst e3
  exact kk q H1 hP1 hD1 hS1
end QA2

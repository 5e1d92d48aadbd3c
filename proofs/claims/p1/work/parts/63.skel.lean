/-! THE CLAIM OUT OF ONE WALK OF THE LAW'S BODY. Your part is whole_start (and what it stands on); all else here is the same for every law, but numbers. -/
def R_law : String := "PacketRowsLaw"
def lw_P (b : Addr) (xs : List Int32) (args : Array Value) (s : State) : Prop := args = #[.ref b] ∧ s.IntsAt b xs ∧ xs.length ≤ 8 ∧ (Jvm.Cond.and given_1 narrow_1).before args s = true
def lw_Q (_ : Array Value) (s : State) (o : Outcome) (t : State) : Prop := o = .returned (some (.int 1)) ∧ Framed s o t [] 600002 7302198
def lw_Z (below : List Frame) (a : Array Value) (s : State) : State → Prop := fun t => ∃ o, t.status = .running ∧ Ended t below o ∧ lw_Q a s o t
/-- the law's own end, with 1 on the stack, nothing written that was there before, its room as the claim has it -/
theorem lw_ret {p : Program} {l : Launch} {e : Env} {s : State} {m : MethodId} {below : List Frame} {meth : Method} {c : Code} {b : Nat} (hx : p.tables.exec = Jvm.exec) (hb : c.code = code) (hr : meth.sig.returnType = ret) (hlocks : meth.locks = false) {pc : Nat} {H : Heap} {ls : Array Slot} (hdg : decode code pc = .ok (.ireturn, 1)) : W p l e room_1 s m #[Value.ref b] below meth c H [] 600002 7302198 (lw_Z below #[Value.ref b] s) (F0 m pc ls [.int 1]) := by
  intro T hT X
  obtain ⟨fs, hret, hrun, hended, hW, hframe⟩ := X.leave (v := some (.int 1)) (hlocks := hlocks) (fun h => by rw [hr] at h; cases h)
  have hmeth' : T.vm.method? m = some meth := X.method'
  refine ⟨T.setFrames fs, ?_, .returned (some (.int 1)), hrun, hended, rfl, ⟨_, rfl⟩, hW, hframe⟩
  jvm_step X.here [X.here.top, hx, hb, hdg, hmeth', hr, ret, narrow_b1]
  (try refine ⟨rfl, ?_⟩); (try refine ⟨rfl, ?_⟩)
  first | (intro acts; rw [hret _ acts rfl rfl rfl]) | rw [hret _ _ rfl rfl rfl]
  exact Steps.refl _
/-- what holds at the law's entry: the machine, the code, the tables' words (any of lw_tbl by 'hts w (by decide +kernel)'), the script of L ints xs at the cell b, what the Statement gives of the start (any of its parts by flat_of_before) -/
def lw_At (p : Program) (s : State) (m : MethodId) (meth : Method) (c : Code) (b L : Nat) (xs : Nat → Int32) : Prop :=
  p.tables.exec = Jvm.exec ∧ c.code = code ∧ meth.sig.returnType = ret ∧ c.maxLocals = 7 ∧ s.vm.findClass R_law = some m.cls ∧ (∀ w ∈ lw_tbl, w.before #[Value.ref b] s = true) ∧ va_X b L xs s s.heap ∧ b < s.heap.size ∧ meth.locks = false ∧ (Jvm.Cond.and given_1 narrow_1).before #[Value.ref b] s = true
/-! the law's own context -/
def lw_C (p : Program) (s : State) (m : MethodId) (meth : Method) (c : Code) (l : Launch) (b L : Nat) (xs : Nat → Int32) (dC : Nat → ClassId) (dI : Nat → Nat → Nat) (cI cZ cL : ClassId) (A : Nat → Prop) : Prop :=
  p.tables.exec = Jvm.exec ∧ c.code = code ∧ meth.sig.returnType = ret ∧ c.maxLocals = 7 ∧ s.vm.findClass "PacketRowsLaw" = some m.cls ∧ (∀ w ∈ Cond.initialized "PacketRows" :: uU, w.before #[Value.ref b] s = true) ∧ meth.locks = false ∧ va_X b L xs s s.heap ∧ b < s.heap.size ∧ ¬ A b ∧ va_K (dC, dI) vwCl (tyL cI cZ cL) s ∧ zN s ∧ oN A s ∧ (∀ q, s.heap.size ≤ q → A q) ∧ (∀ q, A q → s.heap.size ≤ q) ∧ l.stackTraces = false
theorem law_ret {p : Program} {e : Env} {s : State} {m : MethodId} {below : List Frame} {meth : Method} {c : Code} {l : Launch} {b : Nat} {A : Nat → Prop} (hx : p.tables.exec = Jvm.exec) (hb : c.code = code) (hr : meth.sig.returnType = ret) (hlocks : meth.locks = false) (hAf : ∀ q, A q → s.heap.size ≤ q) {H : Heap} {locs : List Loc} (hS : va_S A s.heap H locs) {cells slots : Nat} (h1 : cells ≤ 600002) (h2 : slots ≤ 7302198) {pc : Nat} {ls : Array Slot} (hdg : decode code pc = .ok (.ireturn, 1)) : W p l e room_1 s m #[Value.ref b] below meth c H locs cells slots (lw_Z below #[Value.ref b] s) (F0 m pc ls [.int (nI 1)]) := by
  refine qn_eq (y := 1) (by decide +kernel) ?_
  exact va_forget (fun q hq => hAf _ (hS.2.2 q hq)) (W.widen h1 h2 (lw_ret hx hb hr hlocks hdg))
theorem law_end {p : Program} {e : Env} {s : State} {m : MethodId} {below : List Frame} {meth : Method} {c : Code} {l : Launch} {b : Nat} {xs : Nat → Int32} {dC : Nat → ClassId} {dI : Nat → Nat → Nat} {cI cZ cL : ClassId} {A : Nat → Prop} (hG0 : lw_C p s m meth c l b 8 xs dC dI cI cZ cL A) {H : Heap} {locs : List Loc} (hS : va_S A s.heap H locs) {ls : Array Slot} (hl : lv_has ls 7 [(4, .int (nI 2)), (0, .ref b)]) {cells slots : Nat} (h1 : cells ≤ 600002) (h2 : slots ≤ 7302198) : W p l e room_1 s m #[Value.ref b] below meth c H locs cells slots (lw_Z below #[Value.ref b] s) (F0 m 931 ls []) := by
  obtain ⟨hx, hb, hr, hml, hown, hts, hlocks, hX, hbl, hbA, hK, hZ, hO, hA, hAf, hl0⟩ := hG0
  refine lv_iinc (v := nI 8) (lv' := [(4, .int (nI 8)), (0, .ref b)]) hx hb dLW_law_931 hl (k := 0) rfl (by decide +kernel) (by decide) rfl (fun ls hl => ?_)
  refine lv_goto (tgt := 43) hx hb dLW_law_934 (by decide) ?_
  refine lv_iload hx hb dLW_law_43 (lv_at hl 0 rfl) ?_
  refine lv_aload_n hx hb dLW_law_45 rfl (lv_at hl 1 rfl) ?_
  refine va_slen hx hb hX hbl hbA hS dLW_law_46 ?_
  refine qn_eq (y := nI 8) rfl ?_
  refine lv_bipush (v := nI 6) hx hb dLW_law_47 (by decide +kernel) ?_
  refine qn_isub hx hb dLW_law_49 (by omega) ?_
  refine qn_cgt (tgt := 937) hx hb dLW_law_50 (by decide) (by omega) (by omega) (fun c_50 => ?_) (fun c_50 => absurd c_50 (by omega))
  refine lv_iconst (v := nI 1) hx hb dLW_law_937 (by decide +kernel) ?_
  exact law_ret hx hb hr hlocks hAf hS h1 h2 dLW_law_938
theorem law_short {p : Program} {e : Env} {s : State} {m : MethodId} {below : List Frame} {meth : Method} {c : Code} {l : Launch} {b L : Nat} {xs : Nat → Int32} {dC : Nat → ClassId} {dI : Nat → Nat → Nat} {cI cZ cL : ClassId} {A : Nat → Prop} (hG0 : lw_C p s m meth c l b L xs dC dI cI cZ cL A) (hL : L < 8) {H : Heap} {locs : List Loc} (hS : va_S A s.heap H locs) {ls : Array Slot} (hl : lv_has ls 7 [(4, .int (nI 2)), (0, .ref b)]) {cells slots : Nat} (h1 : cells ≤ 600002) (h2 : slots ≤ 7302198) : W p l e room_1 s m #[Value.ref b] below meth c H locs cells slots (lw_Z below #[Value.ref b] s) (F0 m 43 ls []) := by
  obtain ⟨hx, hb, hr, hml, hown, hts, hlocks, hX, hbl, hbA, hK, hZ, hO, hA, hAf, hl0⟩ := hG0
  have hlt : nI L - nI 6 < nI 2 := by
    rcases (show L = 0 ∨ L = 1 ∨ L = 2 ∨ L = 3 ∨ L = 4 ∨ L = 5 ∨ L = 6 ∨ L = 7 by omega) with q | q | q | q | q | q | q | q <;> rw [q] <;> decide +kernel
  refine lv_iload hx hb dLW_law_43 (lv_at hl 0 rfl) ?_
  refine lv_aload_n hx hb dLW_law_45 rfl (lv_at hl 1 rfl) ?_
  refine va_slen hx hb hX hbl hbA hS dLW_law_46 ?_
  refine qn_eq (y := nI L) rfl ?_
  refine lv_bipush (v := nI 6) hx hb dLW_law_47 (by decide +kernel) ?_
  refine lv_isub hx hb dLW_law_49 ?_
  refine lv_icmp_gt (tgt := 937) hx hb dLW_law_50 (by decide) (fun c_50 => ?_) (fun c_50 => absurd hlt c_50)
  refine lv_iconst (v := nI 1) hx hb dLW_law_937 (by decide +kernel) ?_
  exact law_ret hx hb hr hlocks hAf hS h1 h2 dLW_law_938
def m_cell (L : Nat) (xs : Nat → Int32) (k : Nat) : Int32 := if k < L then xs k else nI 0
theorem k_cell (l : Launch) (b L k : Nat) (xs : Nat → Int32) (hL : L < 2 ^ 31) (hk : k < 2 ^ 31) : Met l yLW_cell wsLW_cell (rmD 0) (va_Pc [.ref b, .int (nI k)] (fun U => va_X b L xs U U.heap ∧ b < U.heap.size)) (vp_Si (fun z => z = m_cell L xs k)) 0 0 (fun _ => False) := by
  refine Met.ofW (cc := cLW_cell) (maxL := 2) (ret := some .int) (by decide) rfl ?_
  intro p e s m args below meth c s₁ B hml hv
  obtain ⟨rfl, hX, hbl⟩ := hv
  have hx := B.exec
  have hb := B.bytes
  have hr := B.returns
  have hlocks := B.notSynchronized
  have hl := lv_entry [.ref b, .int (nI k)] (n := 2) (Nat.le_of_ble_eq_true rfl)
  rw [lg_entry_eq]
  generalize (lg_sl [.ref b, .int (nI k)] ++ List.replicate (2 - (lg_sl [.ref b, .int (nI k)]).length) Slot.unset).toArray = ls at hl ⊢
  have hl : lv_has ls 2 [(0, .ref b), (1, .int (nI k))] := hl
  have hS : va_S (fun _ => False) s.heap s.heap [] := va_S.rf
  refine lv_iload_n hx hb dLW_cell_0 rfl (lv_at hl 1 rfl) ?_
  refine lv_aload_n hx hb dLW_cell_1 rfl (lv_at hl 0 rfl) ?_
  refine va_slen hx hb hX hbl (fun h => h) hS dLW_cell_2 ?_
  refine qn_eq (y := nI L) rfl ?_
  refine qn_cge (tgt := 12) hx hb dLW_cell_3 (by decide) hk hL (fun c_3 => ?_) (fun c_3 => ?_)
  · refine lv_iconst (v := nI 0) hx hb dLW_cell_12 (by decide +kernel) ?_
    exact W.zret hx hb hr rfl (fun t ht hW => ⟨nI 0, rfl, by unfold m_cell; rw [if_neg (by omega)], ht⟩) (fun q hq => by cases hq) dLW_cell_13
  · refine lv_aload_n hx hb dLW_cell_6 rfl (lv_at hl 0 rfl) ?_
    refine lv_iload_n hx hb dLW_cell_7 rfl (lv_at hl 1 rfl) ?_
    refine va_sld hx hb hX hbl (fun h => h) hS (i := nI k) (vp_in_nI c_3 hL) dLW_cell_8 ?_
    refine qn_eq (y := xs k) (congrArg xs (nI_nat hk)) ?_
    refine lv_goto (tgt := 13) hx hb dLW_cell_9 (by decide) ?_
    exact W.zret hx hb hr rfl (fun t ht hW => ⟨xs k, rfl, by unfold m_cell; rw [if_pos c_3], ht⟩) (fun q hq => by cases hq) dLW_cell_13
theorem q_preX {s : State} {H : Heap} {locs : List Loc} {A : Nat → Prop} {b L k : Nat} {xs : Nat → Int32} (hX : va_X b L xs s s.heap) (hbl : b < s.heap.size) (hbA : ¬ A b) (hS : va_S A s.heap H locs) : PreS s H (va_Pc [.ref b, .int (nI k)] (fun U => va_X b L xs U U.heap ∧ b < U.heap.size)) [.ref b, .int (nI k)] :=
  ⟨fun a U g mk q => by
    obtain ⟨q0, q1, q2⟩ := q
    exact ⟨q0, va_X.moved (u := U) (U := U.calling g mk a) (Vm.Alike.refl U.vm) q1, q2⟩, fun U hU hW => ⟨rfl, by rw [hU]; exact va_X.moved hW.alike (hX.kept (hS.2.1 b hbl hbA)), by rw [hU]; exact Nat.lt_of_lt_of_le hbl hS.1⟩⟩

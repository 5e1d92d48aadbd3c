theorem uU_in {w : Cond} (h : w ∈ uU) : w ∈ lw_tbl := (List.mem_filter.mp h).1
theorem lw_hts {args : Array Value} {s : State} {c0 : Cond} (h0 : c0 ∈ uU) (hts : ∀ w ∈ lw_tbl, w.before args s = true) : ∀ w ∈ c0 :: uU, w.before args s = true := fun w hw => (List.mem_cons.mp hw).elim (fun e => by rw [e]; exact hts _ (uU_in h0)) (fun h => hts w (uU_in h))
theorem lw_zin : ∀ w ∈ zW, w ∈ lw_tbl ∧ w.onTables = true := by decide +kernel
theorem lw_sin : ∀ x ∈ sW, Cond.stringRef "PacketRows" x.1 x.2 ∈ lw_tbl := by decide +kernel
theorem lw_nC {args : Array Value} {s : State} (h : (Cond.not (.castable "java/lang/IllegalArgumentException" "java/lang/IndexOutOfBoundsException")).before args s = true) : nC s := by
  have h2 := Cond.holds_not_iff.mp h
  cases e1 : s.vm.findClass "java/lang/IllegalArgumentException" with
  | none => simp [Cond.value, e1] at h2
  | some c1 =>
    cases e2 : s.vm.findClass "java/lang/IndexOutOfBoundsException" with
    | none => simp [Cond.value, e1, e2] at h2
    | some c2 =>
      simp [Cond.value, e1, e2] at h2
      exact ⟨c1, c2, e1, e2, h2⟩
theorem lw_zN {args : Array Value} {s : State} (hts : ∀ w ∈ lw_tbl, w.before args s = true) (hn : nC s) : zN s := by
  refine ⟨fun w hw => va_Nw.of (lw_zin w hw).2 (hts w (lw_zin w hw).1), fun x hx => ?_, hn⟩
  have h2 := hts _ (lw_sin x hx)
  obtain ⟨cX, kX0, hfX, -⟩ := Cond.instantiable_spec (hts _ (uU_in u_69))
  obtain ⟨-, -, -, a, -, -, -, -, -, hev⟩ := Cond.stringRef_spec hfX h2
  exact ⟨a, vk_R.of h2 hev⟩
abbrev tOrd : Term := .static "PacketRows" "ORDERS" "[I"
theorem lw_ord : ∀ j, j < 20 → Cond.eq (.elem tOrd (.int (Int32.ofNat j))) (.int (nI (m_ord j))) ∈ flatC (Jvm.Cond.and given_1 narrow_1) := by decide +kernel
theorem lw_f1 : Cond.arrayOf tOrd .int ∈ flatC (Jvm.Cond.and given_1 narrow_1) := by decide +kernel
theorem lw_f2 : Cond.eq (.length tOrd) (.int (Int32.ofNat 20)) ∈ flatC (Jvm.Cond.and given_1 narrow_1) := by decide +kernel
theorem lw_f3 : Cond.isRef (.static "java/lang/Throwable" "UNASSIGNED_STACK" sUN) ∈ flatC (Jvm.Cond.and given_1 narrow_1) := by decide +kernel
theorem lw_f4 : Cond.isRef (.static "java/lang/Throwable" "SUPPRESSED_SENTINEL" sLI) ∈ flatC (Jvm.Cond.and given_1 narrow_1) := by decide +kernel
theorem lw_f5 : Cond.not (.castable "java/lang/IllegalArgumentException" "java/lang/IndexOutOfBoundsException") ∈ flatC (Jvm.Cond.and given_1 narrow_1) := by decide +kernel
theorem lw_t1 : Cond.laysStatic "PacketRows" "ORDERS" "[I" ∈ lw_tbl := by decide +kernel
theorem lw_t2 : Cond.laysStatic "java/lang/Throwable" "UNASSIGNED_STACK" sUN ∈ lw_tbl := by decide +kernel
theorem lw_t3 : Cond.laysStatic "java/lang/Throwable" "SUPPRESSED_SENTINEL" sLI ∈ lw_tbl := by decide +kernel
theorem lw_oN {args : Array Value} {s : State} {A : Nat → Prop} (hts : ∀ w ∈ lw_tbl, w.before args s = true) (hf : ∀ w ∈ flatC (Jvm.Cond.and given_1 narrow_1), w.before args s = true) (hA : ∀ a : Nat, a < s.heap.size → ¬ A a) : oN A s := by
  obtain ⟨t, ht, hT⟩ := va_Tof (N := 20) (f := ordV) (A := A) (by decide) (hf _ lw_f1) (va_eqt (hf _ lw_f2)) (fun j hj => va_eqt (hf _ (lw_ord j hj))) hA
  exact ⟨⟨t, va_Zref (hts _ lw_t1) (hts _ (uU_in u_40)) ht hA, hT⟩, oQ.of (hts _ lw_t2) (hf _ lw_f3) hA, oQ.of (hts _ lw_t3) (hf _ lw_f4) hA⟩
theorem lw_K {args : Array Value} {s : State} {c0 : Cond} (hts : ∀ w ∈ c0 :: uU, w.before args s = true) : ∃ (dC : Nat → ClassId) (dI : Nat → Nat → Nat) (cI cZ cL : ClassId), va_K (dC, dI) vwCl (tyL cI cZ cL) s := by
  obtain ⟨c0, i0, h0⟩ := u_known (C := "PacketRows$ByteRow") (T := TBR) (N := 2) (n := 2) hts inBR (hU hts u_220)
  obtain ⟨c1, i1, h1⟩ := u_known (C := "PacketRows$Heads") (T := THD) (N := 7) (n := 7) hts inHD (hU hts u_296)
  obtain ⟨c2, i2, h2⟩ := u_known (C := "PacketRows$Order") (T := TOD) (N := 9) (n := 9) hts inOD (hU hts u_178)
  obtain ⟨c3, i3, h3⟩ := u_known (C := "PacketRows$Picture") (T := TPC) (N := 8) (n := 8) hts inPC (hU hts u_77)
  obtain ⟨c4, i4, h4⟩ := u_known (C := "PacketRows$Reader") (T := TRD) (N := 5) (n := 5) hts inRD (hU hts u_275)
  obtain ⟨c5, i5, h5⟩ := u_known (C := "PacketRows$Rows") (T := TRW) (N := 4) (n := 4) hts inRW (hU hts u_152)
  obtain ⟨c6, i6, h6⟩ := u_known (C := "PacketRows$Tree") (T := TTR) (N := 5) (n := 5) hts inTR (hU hts u_303)
  obtain ⟨c7, i7, h7⟩ := u_known (C := "PacketRows$Writer") (T := TWR) (N := 7) (n := 7) hts inWR (hU hts u_237)
  obtain ⟨c8, i8, h8⟩ := u_known (C := "PacketRows") (T := TPR) (N := 13) (n := 13) hts inPR (hU hts u_69)
  obtain ⟨c9, i9, h9⟩ := u_known (C := "PacketRowsModel") (T := TMO) (N := 39) (n := 39) hts inMO (hU hts u_1063)
  obtain ⟨aI, kI, mI, fI, gI, eI⟩ := Cond.arrayClass_spec (hU hts u_150)
  obtain ⟨aZ, kZ, mZ, fZ, gZ, eZ⟩ := Cond.arrayClass_spec (hU hts u_218)
  obtain ⟨aL, kL, mL, fL, gL, eL⟩ := Cond.arrayClass_spec (hU hts u_1376)
  refine ⟨fun k => match k with | 0 => c0 | 1 => c1 | 2 => c2 | 3 => c3 | 4 => c4 | 5 => c5 | 6 => c6 | 7 => c7 | 8 => c8 | _ => c9, fun k => match k with | 0 => i0 | 1 => i1 | 2 => i2 | 3 => i3 | 4 => i4 | 5 => i5 | 6 => i6 | 7 => i7 | 8 => i8 | _ => i9, aI, aZ, aL, ?_, ?_⟩
  · intro k q hq
    match k, hq with
    | 0, hq => cases hq; exact h0
    | 1, hq => cases hq; exact h1
    | 2, hq => cases hq; exact h2
    | 3, hq => cases hq; exact h3
    | 4, hq => cases hq; exact h4
    | 5, hq => cases hq; exact h5
    | 6, hq => cases hq; exact h6
    | 7, hq => cases hq; exact h7
    | 8, hq => cases hq; exact h8
    | 9, hq => cases hq; exact h9
    | k + 10, hq => simp [vwCl] at hq
  · intro k q hq
    match k, hq with
    | 0, hq => cases hq; exact ⟨fun N z => ⟨(fun k h => by cases h), kI, gI, mI, eI⟩, fI⟩
    | 1, hq => cases hq; exact ⟨fun N z => ⟨(fun k h => by cases h), kZ, gZ, mZ, eZ⟩, fZ⟩
    | 2, hq => cases hq; exact ⟨fun N z => ⟨(fun k h => by cases h), kL, gL, mL, eL⟩, fL⟩
    | k + 3, hq => simp [tyL] at hq

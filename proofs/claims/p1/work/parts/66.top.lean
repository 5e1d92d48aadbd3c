theorem m_has_of {p k n : Nat} {x y w : Int32} (h : m_has p k n x y w = true) : (nI 0 ≤ x ∧ x ≤ nI (p - 1)) ∧ (nI 0 ≤ y ∧ y ≤ nI (k - 1)) ∧ (nI 0 ≤ w ∧ w ≤ nI (n - 1)) := by
  unfold m_has at h
  rw [Bool.and_eq_true, Bool.and_eq_true, decide_eq_true_eq, decide_eq_true_eq, decide_eq_true_eq] at h
  exact h
theorem q_lt1 {j n : Nat} (h : j ≤ n - 1) (h1 : 1 ≤ n) : j < n := by omega
theorem m_bnd_1 (g : Nat) : 1 ≤ m_bnd g := by unfold m_bnd; split <;> omega
theorem q_rngm {v : Int32} {n : Nat} (h1 : 1 ≤ n) (h2 : n ≤ 384) (h : nI 0 ≤ v ∧ v ≤ nI n - nI 1) : ∃ k, k < n ∧ v = nI k := by
  rw [pk_sub h1] at h
  obtain ⟨k, -, q, e⟩ := q_rng (by omega) (by omega) h
  exact ⟨k, by omega, e⟩
theorem m_cl_rng {v : Int32} {n : Nat} (h : n = m_cl v 1 8) : 1 ≤ n ∧ n ≤ 8 := by
  subst h
  by_cases h1 : v < nI 1
  · rw [m_cl_lo h1]; omega
  · by_cases h2 : nI 8 < v
    · rw [m_cl_hi (by omega) (by omega) h2]; omega
    · obtain ⟨k, q1, q2, e⟩ := q_rng (v := v) (lo := 1) (hi := 8) (by omega) (by omega) ⟨Int32.not_lt.mp h1, Int32.not_lt.mp h2⟩
      have e2 := m_cl_in (v := v) (lo := 1) (hi := 8) (by omega) (Int32.not_lt.mp h1) (Int32.not_lt.mp h2)
      unfold m_cl
      rw [if_neg h1, if_neg h2, e, nI_nat (by omega)]
      omega
theorem m_cl_rng0 {v : Int32} {n : Nat} (h : n = m_cl v 0 3) : n ≤ 3 := by
  subst h
  by_cases h1 : v < nI 0
  · rw [m_cl_lo h1]; omega
  · by_cases h2 : nI 3 < v
    · rw [m_cl_hi (by omega) (by omega) h2]; omega
    · obtain ⟨k, q1, q2, e⟩ := q_rng (v := v) (lo := 0) (hi := 3) (by omega) (by omega) ⟨Int32.not_lt.mp h1, Int32.not_lt.mp h2⟩
      unfold m_cl
      rw [if_neg h1, if_neg h2, e, nI_nat (by omega)]
      omega
set_option maxHeartbeats 8000000 in
set_option maxRecDepth 100000 in
theorem law_top {p : Program} {e : Env} {s : State} {m : MethodId} {below : List Frame} {meth : Method} {c : Code} {l : Launch} {b L : Nat} {xs : Nat → Int32} {dC : Nat → ClassId} {dI : Nat → Nat → Nat} {cI cZ cL : ClassId} {A : Nat → Prop} (hG0 : lw_C p s m meth c l b L xs dC dI cI cZ cL A) (hL : L ≤ 8) {Ly lv : Nat} (hLy : 1 ≤ Ly ∧ Ly ≤ 8) (hlv : lv ≤ 3) {x pi ab ap aw ah aq tr tap tal taz rr rap ral raz o po pe pl li en ax br row wr bg rd hd hp hg hbg t1 v1 l1 d1 q1 t2 v2 l2 d2 q2 mo kp kw kh kz kps kln krz krf krp krl kpr kro kha kbe kby kgr klo kdo kdr ken ktu kda ou : Nat}  {H : Heap} {locs : List Loc} {ls : Array Slot} (hP : va_P (dC, dI) vwCl [(x, .inr (8, [.ref pi, .ref tr, .ref rr, .ref o, .ref br, .ref wr, .ref rd, .ref hd, .int (nI 0), .int (nI 0), .int (bI false), .int (nI 0), .int (nI 0)])), (pi, .inr (3, [.int (nI Ly), .int (nI (lv + 1)), .ref ab, .ref ap, .ref aw, .ref ah, .ref aq, .int (nI 1)])), (ab, .inl (cI, 3 * (lv + 1), .inl (fun j => nI ((m_put m_b13 0 (lv + 1) m_z) j)))), (ap, .inl (cI, 3 * (lv + 1), .inl (fun j => nI ((m_put m_one 0 (lv + 1) m_z) j)))), (aw, .inl (cI, 3 * (lv + 1), .inl (fun j => nI ((m_put m_one 0 (lv + 1) m_z) j)))), (ah, .inl (cI, 3 * (lv + 1), .inl (fun j => nI ((m_put m_one 0 (lv + 1) m_z) j)))), (aq, .inl (cI, 3 * (lv + 1) + 1, .inl (fun j => nI ((m_starts (m_put m_one 0 (lv + 1) m_z) (m_put m_b13 0 (lv + 1) m_z) (m_put m_one 0 (lv + 1) m_z) (m_put m_one 0 (lv + 1) m_z) m_z (lv + 1)) j)))), (tr, .inr (5, [.int (nI Ly), .ref tap, .ref tal, .ref taz])), (tap, .inl (cI, m_most (lv + 1) * Ly, .inl (fun j => nI (m_z j)))), (tal, .inl (cI, m_most (lv + 1) * Ly, .inl (fun j => nI (m_z j)))), (taz, .inl (cI, m_most (lv + 1), .inl (fun j => nI (m_z j)))), (rr, .inr (5, [.int (nI Ly), .ref rap, .ref ral, .ref raz])), (rap, .inl (cI, m_most (lv + 1) * Ly, .inl (fun j => nI (m_z j)))), (ral, .inl (cI, m_most (lv + 1) * Ly, .inl (fun j => nI (m_z j)))), (raz, .inl (cI, m_most (lv + 1), .inl (fun j => nI (m_z j)))), (o, .inr (2, [.ref pi, .ref po, .ref pe, .ref pl, .ref li, .ref en, .ref ax, .int (nI 0), .int (nI (((m_frl Ly lv).2).2.1))])), (po, .inl (cI, 6, .inl (fun j => nI (m_z j)))), (pe, .inl (cI, 18, .inl (fun j => nI (m_z j)))), (pl, .inl (cI, Ly * (lv + 1) * 3 * 4 * 4, .inl (fun j => nI ((((m_frl Ly lv).2).2.2.1) j)))), (li, .inl (cZ, Ly * (lv + 1) * 3 * 4, .inl (fun j => bI ((((m_frl Ly lv).2).2.2.2) j)))), (en, .inl (cI, 4, .inl (fun j => nI (((m_frl Ly lv).1) j)))), (ax, .inl (cI, 4, .inl (fun j => nI ((((m_frl Ly lv).2).1) j)))), (br, .inr (0, [.ref row, .int (nI 0)])), (row, .inl (cI, 6000, .inl (fun j => nI (m_z j)))), (wr, .inr (7, [.int (nI 0), .ref br, .ref bg, .int (nI 0), .int (bI false), .int (nI 0), .int (nI 0)])), (bg, .inl (cI, Ly * (lv + 1) * 3 * 4, .inl (fun j => nI (m_z j)))), (rd, .inr (4, [.int (nI 0), .ref br, .int (nI 0), .int (nI 0), .int (nI 0)])), (hd, .inr (1, [.ref pi, .ref o, .ref hp, .ref t1, .ref t2, .ref hg, .ref hbg])), (hp, .inl (cI, 2 * m_most (lv + 1), .inl (fun j => oI (m_so j)))), (hg, .inl (cI, m_most (lv + 1), .inl (fun j => nI (m_z j)))), (hbg, .inl (cZ, m_most (lv + 1), .inl (fun j => bI (m_f j)))), (t1, .inr (6, [.ref hp, .ref v1, .ref l1, .ref d1, .ref q1])), (v1, .inl (cI, 2 * m_most (lv + 1), .inl (fun j => nI (m_z j)))), (l1, .inl (cI, 2 * m_most (lv + 1), .inl (fun j => nI (m_z j)))), (d1, .inl (cZ, 2 * m_most (lv + 1), .inl (fun j => bI (m_f j)))), (q1, .inl (cI, 3, .inl (fun j => nI (m_z j)))), (t2, .inr (6, [.ref hp, .ref v2, .ref l2, .ref d2, .ref q2])), (v2, .inl (cI, 2 * m_most (lv + 1), .inl (fun j => nI (m_z j)))), (l2, .inl (cI, 2 * m_most (lv + 1), .inl (fun j => nI (m_z j)))), (d2, .inl (cZ, 2 * m_most (lv + 1), .inl (fun j => bI (m_f j)))), (q2, .inl (cI, 3, .inl (fun j => nI (m_z j)))), (mo, .inr (9, [.int (nI 0), .int (nI Ly), .int (nI (lv + 1)), .int (nI 1), .ref kp, .ref kw, .ref kh, .ref kz, .ref kps, .ref kln, .ref krz, .ref krf, .ref krp, .ref krl, .int (nI 0), .int (nI 0), .ref kpr, .int (nI 0), .ref kro, .ref kha, .int (bI false), .ref kbe, .int (nI 0), .ref kby, .int (nI 0), .int (nI 0), .int (bI false), .ref kgr, .ref klo, .ref kdo, .int (nI 0), .ref kdr, .int (nI 0), .int (nI 0), .int (nI 0), .int (nI 0), .ref ken, .ref ktu, .ref kda])), (kp, .inl (cI, 12, .inl (fun j => nI ((m_put m_one 0 12 m_z) j)))), (kw, .inl (cI, 12, .inl (fun j => nI ((m_put m_one 0 12 m_z) j)))), (kh, .inl (cI, 12, .inl (fun j => nI ((m_put m_one 0 12 m_z) j)))), (kz, .inl (cI, 1728, .inl (fun j => nI (m_z j)))), (kps, .inl (cI, 13824, .inl (fun j => nI (m_z j)))), (kln, .inl (cI, 13824, .inl (fun j => nI (m_z j)))), (krz, .inl (cI, 1728, .inl (fun j => nI ((m_put (fun _ => 0) 0 1728 m_z) j)))), (krf, .inl (cI, 1728, .inl (fun j => oI ((m_put (fun _ => none) 0 1728 m_so) j)))), (krp, .inl (cI, 13824, .inl (fun j => nI ((m_put (fun _ => 0) 0 13824 m_z) j)))), (krl, .inl (cI, 13824, .inl (fun j => nI ((m_put (fun _ => 0) 0 13824 m_z) j)))), (kpr, .inl (cI, 24, .inl (fun j => nI (m_z j)))), (kro, .inl (cI, 1536, .inl (fun j => nI (m_z j)))), (kha, .inl (cZ, 384, .inl (fun j => bI (m_f j)))), (kbe, .inl (cI, 384, .inl (fun j => nI (m_z j)))), (kby, .inl (cI, 6000, .inl (fun j => nI (m_z j)))), (kgr, .inl (cI, 1728, .inl (fun j => nI (m_z j)))), (klo, .inl (cI, 4896, .inl (fun j => nI (m_z j)))), (kdo, .inl (cZ, 4896, .inl (fun j => bI (m_f j)))), (kdr, .inl (cI, 6010, .inl (fun j => nI (m_z j)))), (ken, .inl (cI, 4, .inl (fun j => nI (m_z j)))), (ktu, .inl (cI, 4, .inl (fun j => nI (m_z j)))), (kda, .inl (cI, 384, .inl (fun j => nI (m_z j)))), (ou, .inl (cL, 1, .inr (.inl m_zl)))] H) (hD : va_D A [(x, .inr (8, [.ref pi, .ref tr, .ref rr, .ref o, .ref br, .ref wr, .ref rd, .ref hd, .int (nI 0), .int (nI 0), .int (bI false), .int (nI 0), .int (nI 0)])), (pi, .inr (3, [.int (nI Ly), .int (nI (lv + 1)), .ref ab, .ref ap, .ref aw, .ref ah, .ref aq, .int (nI 1)])), (ab, .inl (cI, 3 * (lv + 1), .inl (fun j => nI ((m_put m_b13 0 (lv + 1) m_z) j)))), (ap, .inl (cI, 3 * (lv + 1), .inl (fun j => nI ((m_put m_one 0 (lv + 1) m_z) j)))), (aw, .inl (cI, 3 * (lv + 1), .inl (fun j => nI ((m_put m_one 0 (lv + 1) m_z) j)))), (ah, .inl (cI, 3 * (lv + 1), .inl (fun j => nI ((m_put m_one 0 (lv + 1) m_z) j)))), (aq, .inl (cI, 3 * (lv + 1) + 1, .inl (fun j => nI ((m_starts (m_put m_one 0 (lv + 1) m_z) (m_put m_b13 0 (lv + 1) m_z) (m_put m_one 0 (lv + 1) m_z) (m_put m_one 0 (lv + 1) m_z) m_z (lv + 1)) j)))), (tr, .inr (5, [.int (nI Ly), .ref tap, .ref tal, .ref taz])), (tap, .inl (cI, m_most (lv + 1) * Ly, .inl (fun j => nI (m_z j)))), (tal, .inl (cI, m_most (lv + 1) * Ly, .inl (fun j => nI (m_z j)))), (taz, .inl (cI, m_most (lv + 1), .inl (fun j => nI (m_z j)))), (rr, .inr (5, [.int (nI Ly), .ref rap, .ref ral, .ref raz])), (rap, .inl (cI, m_most (lv + 1) * Ly, .inl (fun j => nI (m_z j)))), (ral, .inl (cI, m_most (lv + 1) * Ly, .inl (fun j => nI (m_z j)))), (raz, .inl (cI, m_most (lv + 1), .inl (fun j => nI (m_z j)))), (o, .inr (2, [.ref pi, .ref po, .ref pe, .ref pl, .ref li, .ref en, .ref ax, .int (nI 0), .int (nI (((m_frl Ly lv).2).2.1))])), (po, .inl (cI, 6, .inl (fun j => nI (m_z j)))), (pe, .inl (cI, 18, .inl (fun j => nI (m_z j)))), (pl, .inl (cI, Ly * (lv + 1) * 3 * 4 * 4, .inl (fun j => nI ((((m_frl Ly lv).2).2.2.1) j)))), (li, .inl (cZ, Ly * (lv + 1) * 3 * 4, .inl (fun j => bI ((((m_frl Ly lv).2).2.2.2) j)))), (en, .inl (cI, 4, .inl (fun j => nI (((m_frl Ly lv).1) j)))), (ax, .inl (cI, 4, .inl (fun j => nI ((((m_frl Ly lv).2).1) j)))), (br, .inr (0, [.ref row, .int (nI 0)])), (row, .inl (cI, 6000, .inl (fun j => nI (m_z j)))), (wr, .inr (7, [.int (nI 0), .ref br, .ref bg, .int (nI 0), .int (bI false), .int (nI 0), .int (nI 0)])), (bg, .inl (cI, Ly * (lv + 1) * 3 * 4, .inl (fun j => nI (m_z j)))), (rd, .inr (4, [.int (nI 0), .ref br, .int (nI 0), .int (nI 0), .int (nI 0)])), (hd, .inr (1, [.ref pi, .ref o, .ref hp, .ref t1, .ref t2, .ref hg, .ref hbg])), (hp, .inl (cI, 2 * m_most (lv + 1), .inl (fun j => oI (m_so j)))), (hg, .inl (cI, m_most (lv + 1), .inl (fun j => nI (m_z j)))), (hbg, .inl (cZ, m_most (lv + 1), .inl (fun j => bI (m_f j)))), (t1, .inr (6, [.ref hp, .ref v1, .ref l1, .ref d1, .ref q1])), (v1, .inl (cI, 2 * m_most (lv + 1), .inl (fun j => nI (m_z j)))), (l1, .inl (cI, 2 * m_most (lv + 1), .inl (fun j => nI (m_z j)))), (d1, .inl (cZ, 2 * m_most (lv + 1), .inl (fun j => bI (m_f j)))), (q1, .inl (cI, 3, .inl (fun j => nI (m_z j)))), (t2, .inr (6, [.ref hp, .ref v2, .ref l2, .ref d2, .ref q2])), (v2, .inl (cI, 2 * m_most (lv + 1), .inl (fun j => nI (m_z j)))), (l2, .inl (cI, 2 * m_most (lv + 1), .inl (fun j => nI (m_z j)))), (d2, .inl (cZ, 2 * m_most (lv + 1), .inl (fun j => bI (m_f j)))), (q2, .inl (cI, 3, .inl (fun j => nI (m_z j)))), (mo, .inr (9, [.int (nI 0), .int (nI Ly), .int (nI (lv + 1)), .int (nI 1), .ref kp, .ref kw, .ref kh, .ref kz, .ref kps, .ref kln, .ref krz, .ref krf, .ref krp, .ref krl, .int (nI 0), .int (nI 0), .ref kpr, .int (nI 0), .ref kro, .ref kha, .int (bI false), .ref kbe, .int (nI 0), .ref kby, .int (nI 0), .int (nI 0), .int (bI false), .ref kgr, .ref klo, .ref kdo, .int (nI 0), .ref kdr, .int (nI 0), .int (nI 0), .int (nI 0), .int (nI 0), .ref ken, .ref ktu, .ref kda])), (kp, .inl (cI, 12, .inl (fun j => nI ((m_put m_one 0 12 m_z) j)))), (kw, .inl (cI, 12, .inl (fun j => nI ((m_put m_one 0 12 m_z) j)))), (kh, .inl (cI, 12, .inl (fun j => nI ((m_put m_one 0 12 m_z) j)))), (kz, .inl (cI, 1728, .inl (fun j => nI (m_z j)))), (kps, .inl (cI, 13824, .inl (fun j => nI (m_z j)))), (kln, .inl (cI, 13824, .inl (fun j => nI (m_z j)))), (krz, .inl (cI, 1728, .inl (fun j => nI ((m_put (fun _ => 0) 0 1728 m_z) j)))), (krf, .inl (cI, 1728, .inl (fun j => oI ((m_put (fun _ => none) 0 1728 m_so) j)))), (krp, .inl (cI, 13824, .inl (fun j => nI ((m_put (fun _ => 0) 0 13824 m_z) j)))), (krl, .inl (cI, 13824, .inl (fun j => nI ((m_put (fun _ => 0) 0 13824 m_z) j)))), (kpr, .inl (cI, 24, .inl (fun j => nI (m_z j)))), (kro, .inl (cI, 1536, .inl (fun j => nI (m_z j)))), (kha, .inl (cZ, 384, .inl (fun j => bI (m_f j)))), (kbe, .inl (cI, 384, .inl (fun j => nI (m_z j)))), (kby, .inl (cI, 6000, .inl (fun j => nI (m_z j)))), (kgr, .inl (cI, 1728, .inl (fun j => nI (m_z j)))), (klo, .inl (cI, 4896, .inl (fun j => nI (m_z j)))), (kdo, .inl (cZ, 4896, .inl (fun j => bI (m_f j)))), (kdr, .inl (cI, 6010, .inl (fun j => nI (m_z j)))), (ken, .inl (cI, 4, .inl (fun j => nI (m_z j)))), (ktu, .inl (cI, 4, .inl (fun j => nI (m_z j)))), (kda, .inl (cI, 384, .inl (fun j => nI (m_z j)))), (ou, .inl (cL, 1, .inr (.inl m_zl)))]) (hS : va_S A s.heap H locs) (hl : lv_has ls 7 [(4, .int (nI 2)), (3, .ref ou), (2, .ref mo), (1, .ref x), (0, .ref b)]) :
    W p l e room_1 s m #[Value.ref b] below meth c H locs 65 116478 (lw_Z below #[Value.ref b] s) (F0 m 43 ls []) := by
  by_cases h8 : L = 8
  · subst h8
    have hG1 := hG0
    obtain ⟨hx, hb, hr, hml, hown, hts, hlocks, hX, hbl, hbA, hK, hZ, hO, hA, hAf, hl0⟩ := hG1
    refine lv_iload hx hb dLW_law_43 (lv_at hl 0 rfl) ?_
    refine lv_aload_n hx hb dLW_law_45 rfl (lv_at hl 4 rfl) ?_
    refine va_slen hx hb hX hbl hbA hS dLW_law_46 ?_
    refine qn_eq (y := nI 8) rfl ?_
    refine lv_bipush (v := nI 6) hx hb dLW_law_47 (by decide +kernel) ?_
    refine qn_isub hx hb dLW_law_49 (by omega) ?_
    refine qn_cgt (tgt := 937) hx hb dLW_law_50 (by decide) (by omega) (by omega) (fun c_50 => ?_) (fun c_50 => ?_)
    · exact absurd c_50 (by omega)
    · refine lv_aload_n hx hb dLW_law_53 rfl (lv_at hl 4 rfl) ?_
      refine lv_iload hx hb dLW_law_54 (lv_at hl 0 rfl) ?_
      refine va_sld hx hb hX hbl hbA hS (i := nI 2) (vp_in_nI (by omega) (by omega)) dLW_law_56 ?_
      refine qn_eq (y := xs 2) (congrArg xs (nI_nat (k := 2) (by omega))) ?_
      refine lv_bipush (v := nI 15) hx hb dLW_law_57 (by decide +kernel) ?_
      refine lv_iand hx hb dLW_law_59 ?_
      obtain ⟨k9, hk9, e9⟩ := q_and15 (xs 2)
      refine qn_eq (y := nI k9) e9 ?_
      rcases (show k9 = 0 ∨ k9 = 1 ∨ k9 = 2 ∨ k9 = 3 ∨ k9 = 4 ∨ k9 = 5 ∨ k9 = 6 ∨ k9 = 7 ∨ k9 = 8 ∨ k9 = 9 ∨ k9 = 10 ∨ k9 = 11 ∨ k9 = 12 ∨ k9 = 13 ∨ k9 = 14 ∨ k9 = 15 by omega) with q9 | q9 | q9 | q9 | q9 | q9 | q9 | q9 | q9 | q9 | q9 | q9 | q9 | q9 | q9 | q9 <;> subst q9
      · refine lv_tableIn (x := nI 0) (off := 80) (tgt := 140) hx hb dLW_law_60 (by decide +kernel) (by decide +kernel) rfl (by decide +kernel) ?_
        exact law_0 hG0 hLy hlv hP hD hS hl
      · refine lv_tableIn (x := nI 1) (off := 93) (tgt := 153) hx hb dLW_law_60 (by decide +kernel) (by decide +kernel) rfl (by decide +kernel) ?_
        by_cases hs : ((nI 0 ≤ xs 3 ∧ xs 3 ≤ nI (1 - 1)) ∧ (nI 0 ≤ xs 4 ∧ xs 4 ≤ nI (lv + 1 - 1)))
        · obtain ⟨a9, a9l, a9h, h3⟩ := q_rng (by omega) (by omega) hs.1
          obtain rfl : a9 = 0 := by omega
          obtain ⟨k0, k0l, k0h, h4⟩ := q_rng (by omega) (by omega) hs.2
          by_cases hg9 : ((nI 1 ≤ xs 5 ∧ xs 5 ≤ nI 4) ∧ (nI 1 ≤ xs 6 ∧ xs 6 ≤ nI 4) ∧ (nI 1 ≤ xs 7 ∧ xs 7 ≤ nI 3))
          · obtain ⟨c0, c0l, c0h, h5⟩ := q_rng (by omega) (by omega) hg9.1
            obtain ⟨d0, d0l, d0h, h6⟩ := q_rng (by omega) (by omega) hg9.2.1
            obtain ⟨e0, e0l, e0h, h7⟩ := q_rng (by omega) (by omega) hg9.2.2
            exact law_1c hG0 hLy hlv k0 (by omega) h3 h4 c0 d0 e0 h5 h6 h7 ⟨c0l, c0h⟩ ⟨d0l, d0h⟩ ⟨e0l, e0h⟩ hP hD hS hl
          · exact law_1b hG0 hLy hlv k0 (by omega) h3 h4 hg9 hP hD hS hl
        · exact law_1a hG0 hLy hlv hs hP hD hS hl
      · refine lv_tableIn (x := nI 2) (off := 197) (tgt := 257) hx hb dLW_law_60 (by decide +kernel) (by decide +kernel) rfl (by decide +kernel) ?_
        by_cases hs : ((nI 0 ≤ xs 3 ∧ xs 3 ≤ nI (1 - 1)) ∧ (nI 0 ≤ xs 4 ∧ xs 4 ≤ nI (lv + 1 - 1)))
        · obtain ⟨a9, a9l, a9h, h3⟩ := q_rng (by omega) (by omega) hs.1
          obtain rfl : a9 = 0 := by omega
          obtain ⟨k0, k0l, k0h, h4⟩ := q_rng (by omega) (by omega) hs.2
          cases hg9 : m_has (fJ (4 * 0 + k0)) (m_bnd (4 * 0 + k0)) (fJ (4 * 0 + k0) * fJ (4 * 0 + k0)) (xs 5) (xs 6) (xs 7) with
          | false => exact law_2b hG0 hLy hlv k0 (by omega) h3 h4 hg9 hP hD hS hl
          | true =>
            obtain ⟨g1, g2, g3⟩ := m_has_of hg9
            obtain ⟨c0, c0l, c0h, h5⟩ := q_rng (by omega) (Nat.lt_of_le_of_lt (Nat.sub_le _ _) (Nat.lt_of_le_of_lt (f_pr _) (by omega))) g1
            obtain ⟨d0, d0l, d0h, h6⟩ := q_rng (by omega) (Nat.lt_of_le_of_lt (Nat.sub_le _ _) (Nat.lt_of_le_of_lt (m_bnd_le _) (by omega))) g2
            obtain ⟨e0, e0l, e0h, h7⟩ := q_rng (by omega) (Nat.lt_of_le_of_lt (Nat.sub_le _ _) (Nat.lt_of_le_of_lt f_m12 (by omega))) g3
            exact law_2c hG0 hLy hlv k0 (by omega) h3 h4 c0 d0 e0 h5 h6 h7 (q_lt1 c0h (f_j1 hlv (by omega))) (q_lt1 d0h (m_bnd_1 _)) (q_lt1 e0h (Nat.mul_le_mul (f_j1 hlv (by omega)) (f_j1 hlv (by omega)))) hP hD hS hl
        · exact law_2a hG0 hLy hlv hs hP hD hS hl
      · refine lv_tableIn (x := nI 3) (off := 301) (tgt := 361) hx hb dLW_law_60 (by decide +kernel) (by decide +kernel) rfl (by decide +kernel) ?_
        by_cases hs : nI 0 ≤ xs 3 ∧ xs 3 ≤ nI (Ly - 1)
        · by_cases hg9 : (nI 0 ≤ xs 4 ∧ xs 4 ≤ nI 164) ∧ (nI 0 ≤ xs 5 ∧ xs 5 ≤ nI 65535)
          · obtain ⟨y0, y0l, y0h, h3⟩ := q_rng (by omega) (by omega) hs
            obtain ⟨n0, n0l, n0h, h4⟩ := q_rng (by omega) (by omega) hg9.1
            obtain ⟨w0, w0l, w0h, h5⟩ := q_rng (by omega) (by omega) hg9.2
            exact law_3c hG0 hLy hlv y0 n0 w0 h3 h4 h5 (by omega) n0h w0h hP hD hS hl
          · exact law_3b hG0 hLy hlv hs hg9 hP hD hS hl
        · exact law_3a hG0 hLy hlv hs hP hD hS hl
      · refine lv_tableIn (x := nI 4) (off := 361) (tgt := 421) hx hb dLW_law_60 (by decide +kernel) (by decide +kernel) rfl (by decide +kernel) ?_
        by_cases hs : nI 0 ≤ xs 3 ∧ xs 3 ≤ nI 30
        · obtain ⟨v0, v0l, v0h, h3⟩ := q_rng (by omega) (by omega) hs
          exact law_4b hG0 hLy hlv v0 h3 v0h hP hD hS hl
        · exact law_4a hG0 hLy hlv hs hP hD hS hl
      · refine lv_tableIn (x := nI 5) (off := 397) (tgt := 457) hx hb dLW_law_60 (by decide +kernel) (by decide +kernel) rfl (by decide +kernel) ?_
        by_cases hs : ((nI 0 ≤ xs 3 ∧ xs 3 ≤ nI 4) ∧ (nI 1 ≤ xs 4 ∧ xs 4 ≤ nI 8) ∧ (nI 1 ≤ xs 5 ∧ xs 5 ≤ nI 4) ∧ (nI 1 ≤ xs 6 ∧ xs 6 ≤ nI 3))
        · obtain ⟨a0, a0l, a0h, h3⟩ := q_rng (by omega) (by omega) hs.1
          obtain ⟨y0, y0l, y0h, h4⟩ := q_rng (by omega) (by omega) hs.2.1
          obtain ⟨w0, w0l, w0h, h5⟩ := q_rng (by omega) (by omega) hs.2.2.1
          obtain ⟨k0, k0l, k0h, h6⟩ := q_rng (by omega) (by omega) hs.2.2.2
          exact law_5b hG0 hLy hlv a0 y0 w0 k0 h3 h4 h5 h6 a0h ⟨y0l, y0h⟩ ⟨w0l, w0h⟩ ⟨k0l, k0h⟩ hP hD hS hl
        · exact law_5a hG0 hLy hlv hs hP hD hS hl
      · refine lv_tableIn (x := nI 6) (off := 489) (tgt := 549) hx hb dLW_law_60 (by decide +kernel) (by decide +kernel) rfl (by decide +kernel) ?_
        exact law_6 hG0 hLy hlv hP hD hS hl
      · refine lv_tableIn (x := nI 7) (off := 502) (tgt := 562) hx hb dLW_law_60 (by decide +kernel) (by decide +kernel) rfl (by decide +kernel) ?_
        exact law_7 hG0 hLy hlv hP hD hS hl
      · refine lv_tableIn (x := nI 8) (off := 515) (tgt := 575) hx hb dLW_law_60 (by decide +kernel) (by decide +kernel) rfl (by decide +kernel) ?_
        by_cases hs : ((nI 0 ≤ xs 3 ∧ xs 3 ≤ nI ((m_frl Ly lv).2).2.1 - nI 1) ∧ (nI 0 ≤ xs 4 ∧ xs 4 ≤ nI 4))
        · obtain ⟨k0, hk, h3⟩ := q_rngm (f_posC hLy hlv) (f_le hLy hlv) hs.1
          obtain ⟨y0, y0l, y0h, h4⟩ := q_rng (by omega) (by omega) hs.2
          by_cases h9 : y0 < 4
          · exact law_8b hG0 hLy hlv k0 y0 h3 h4 hk h9 hP hD hS hl
          · obtain rfl : y0 = 4 := by omega
            exact law_8c hG0 hLy hlv k0 h3 h4 hk hP hD hS hl
        · exact law_8a hG0 hLy hlv hs hP hD hS hl
      · refine lv_tableIn (x := nI 9) (off := 583) (tgt := 643) hx hb dLW_law_60 (by decide +kernel) (by decide +kernel) rfl (by decide +kernel) ?_
        exact law_9 hG0 hLy hlv hP hD hS hl
      · refine lv_tableIn (x := nI 10) (off := 596) (tgt := 656) hx hb dLW_law_60 (by decide +kernel) (by decide +kernel) rfl (by decide +kernel) ?_
        by_cases hs : nI 1 ≤ xs 3 ∧ xs 3 ≤ nI 8
        · obtain ⟨n0, n0l, n0h, h3⟩ := q_rng (by omega) (by omega) hs
          exact law_10b hG0 hLy hlv n0 h3 ⟨n0l, n0h⟩ hP hD hS hl
        · exact law_10a hG0 hLy hlv hs hP hD hS hl
      · refine lv_tableIn (x := nI 11) (off := 696) (tgt := 756) hx hb dLW_law_60 (by decide +kernel) (by decide +kernel) rfl (by decide +kernel) ?_
        exact law_11 hG0 hLy hlv hP hD hS hl
      · refine lv_tableIn (x := nI 12) (off := 709) (tgt := 769) hx hb dLW_law_60 (by decide +kernel) (by decide +kernel) rfl (by decide +kernel) ?_
        exact law_12 hG0 hLy hlv hP hD hS hl
      · refine lv_tableIn (x := nI 13) (off := 734) (tgt := 794) hx hb dLW_law_60 (by decide +kernel) (by decide +kernel) rfl (by decide +kernel) ?_
        exact law_13 hG0 hLy hlv hP hD hS hl
      · refine lv_tableIn (x := nI 14) (off := 747) (tgt := 807) hx hb dLW_law_60 (by decide +kernel) (by decide +kernel) rfl (by decide +kernel) ?_
        by_cases hs : ((nI 0 ≤ xs 3 ∧ xs 3 ≤ nI (Ly - 1)) ∧ (nI 0 ≤ xs 4 ∧ xs 4 ≤ nI 3))
        · obtain ⟨y0, y0l, y0h, h3⟩ := q_rng (by omega) (by omega) hs.1
          obtain ⟨w0, w0l, w0h, h4⟩ := q_rng (by omega) (by omega) hs.2
          rcases (show w0 = 0 ∨ w0 = 1 ∨ w0 = 2 ∨ w0 = 3 by omega) with q9 | q9 | q9 | q9 <;> subst q9
          · exact law_14b hG0 hLy hlv y0 h3 h4 (by omega) hP hD hS hl
          · exact law_14c hG0 hLy hlv y0 h3 h4 (by omega) hP hD hS hl
          · exact law_14d hG0 hLy hlv y0 h3 h4 (by omega) hP hD hS hl
          · exact law_14e hG0 hLy hlv y0 h3 h4 (by omega) hP hD hS hl
        · exact law_14a hG0 hLy hlv hs hP hD hS hl
      · refine lv_tableIn (x := nI 15) (off := 815) (tgt := 875) hx hb dLW_law_60 (by decide +kernel) (by decide +kernel) rfl (by decide +kernel) ?_
        by_cases hs : nI 0 ≤ xs 3 ∧ xs 3 ≤ nI 5
        · obtain ⟨v0, v0l, v0h, h3⟩ := q_rng (by omega) (by omega) hs
          rcases (show v0 = 0 ∨ v0 = 1 ∨ v0 = 2 ∨ v0 = 3 ∨ v0 = 4 ∨ v0 = 5 by omega) with q9 | q9 | q9 | q9 | q9 | q9 <;> subst q9
          · exact law_15b hG0 hLy hlv h3 hP hD hS hl
          · exact law_15c hG0 hLy hlv h3 hP hD hS hl
          · exact law_15d hG0 hLy hlv h3 hP hD hS hl
          · exact law_15e hG0 hLy hlv h3 hP hD hS hl
          · exact law_15f hG0 hLy hlv h3 hP hD hS hl
          · exact law_15g hG0 hLy hlv h3 hP hD hS hl
        · exact law_15a hG0 hLy hlv hs hP hD hS hl
  · exact law_short hG0 (by omega) hS (lv_sub hl [0, 4] rfl) (Nat.le_of_ble_eq_true rfl) (Nat.le_of_ble_eq_true rfl)

theorem m_has_of {p k n : Nat} {x y w : Int32} (h : m_has p k n x y w = true) : (nI 0 ≤ x ∧ x ≤ nI (p - 1)) ∧ (nI 0 ≤ y ∧ y ≤ nI (k - 1)) ∧ (nI 0 ≤ w ∧ w ≤ nI (n - 1)) := by
  unfold m_has at h
  rw [Bool.and_eq_true, Bool.and_eq_true, decide_eq_true_eq, decide_eq_true_eq, decide_eq_true_eq] at h
  exact h
theorem q_lt1 {j n : Nat} (h : j ≤ n - 1) (h1 : 1 ≤ n) : j < n := by omega
theorem m_bnd_1 (g : Nat) : 1 ≤ m_bnd g := by unfold m_bnd; split <;> omega
theorem q_rngm {v : Int32} {n : Nat} (h1 : 1 ≤ n) (h2 : n ≤ 384) (h : nI 0 ≤ v ∧ v ≤ nI n - nI 1) : ∃ k, k < n ∧ v = nI k := by
  rw [pk_sub h1] at h
  obtain ⟨k, -, q, e⟩ := q_rng (by omega) (by omega) h
  exact ⟨k, by omega, e⟩
theorem m_cl_rng {v : Int32} {n : Nat} (h : n = m_cl v 1 8) : 1 ≤ n ∧ n ≤ 8 := by
  subst h
  by_cases h1 : v < nI 1
  · rw [m_cl_lo h1]; omega
  · by_cases h2 : nI 8 < v
    · rw [m_cl_hi (by omega) (by omega) h2]; omega
    · obtain ⟨k, q1, q2, e⟩ := q_rng (v := v) (lo := 1) (hi := 8) (by omega) (by omega) ⟨Int32.not_lt.mp h1, Int32.not_lt.mp h2⟩
      have e2 := m_cl_in (v := v) (lo := 1) (hi := 8) (by omega) (Int32.not_lt.mp h1) (Int32.not_lt.mp h2)
      unfold m_cl
      rw [if_neg h1, if_neg h2, e, nI_nat (by omega)]
      omega
theorem m_cl_rng0 {v : Int32} {n : Nat} (h : n = m_cl v 0 3) : n ≤ 3 := by
  subst h
  by_cases h1 : v < nI 0
  · rw [m_cl_lo h1]; omega
  · by_cases h2 : nI 3 < v
    · rw [m_cl_hi (by omega) (by omega) h2]; omega
    · obtain ⟨k, q1, q2, e⟩ := q_rng (v := v) (lo := 0) (hi := 3) (by omega) (by omega) ⟨Int32.not_lt.mp h1, Int32.not_lt.mp h2⟩
      unfold m_cl
      rw [if_neg h1, if_neg h2, e, nI_nat (by omega)]
      omega
set_option maxHeartbeats 8000000 in
set_option maxRecDepth 100000 in
theorem law_top {p : Program} {e : Env} {s : State} {m : MethodId} {below : List Frame} {meth : Method} {c : Code} {l : Launch} {b Ln : Nat} {xs : Nat → Int32} {dC : Nat → ClassId} {dI : Nat → Nat → Nat} {cI cZ cL : ClassId} {A : Nat → Prop} (hG0 : lw_C p s m meth c l b Ln xs dC dI cI cZ cL A) {x pi ab ap aw ah aq tr tap tal taz rr rap ral raz o po pe pl li en ax br row wr bg rd hd hp hg hbg t1 v1 l1 d1 q1 t2 v2 l2 d2 q2 mo kp kw kh kz kps kln krz krf krp krl kpr kro kha kbe kby kgr klo kdo kdr ken ktu kda ou L Rz i : Nat} (hN : lwLP p e s m below meth c l b dC dI cI cZ cL A x pi ab ap aw ah aq tr tap tal taz rr rap ral raz o po pe pl li en ax br row wr bg rd hd hp hg hbg t1 v1 l1 d1 q1 t2 v2 l2 d2 q2 mo kp kw kh kz kps kln krz krf krp krl kpr kro kha kbe kby kgr klo kdo kdr ken ktu kda ou L Rz (i + 6)) (hi : 2 ≤ i ∧ i + 6 ≤ Ln ∧ Ln ≤ 3074) : lwLP p e s m below meth c l b dC dI cI cZ cL A x pi ab ap aw ah aq tr tap tal taz rr rap ral raz o po pe pl li en ax br row wr bg rd hd hp hg hbg t1 v1 l1 d1 q1 t2 v2 l2 d2 q2 mo kp kw kh kz kps kln krz krf krp krl kpr kro kha kbe kby kgr klo kdo kdr ken ktu kda ou L Rz i := by
  unfold lwLP
  intro cs co wt lf lr C bd pr wd ht sta tps tln tzs rps rln rzs pts X fo fe fn bz f wf wz wm wc wfr bgf rf rc ru rl g gr bn vs1 lo1 dn1 pa1 vs2 lo2 dn2 pa2 th ch Y fz msz mf mov rds dr mat mle mno mla jp jw jh jz jps jln jrz jrf jrp jrl jpr jbe jby jgr jlo jdo jdr jen jda fo_ H locs ls hI hP hD hS hl
  have hG1 := hG0
  obtain ⟨hx, hb, hr, hml, hown, hts, hlocks, hX, hbl, hbA, hK, hZ, hO, hA, hAf, hl0⟩ := id hG0
  obtain ⟨uA, uP, uX, uC, uT, uB, uR, uH, uJ⟩ := id hI
  obtain ⟨hi2, hi6, hLn⟩ := id hi
  have hL := uA.1
  have hRz := uA.2.1
  have hC := uA.2.2.1
  refine lv_iload hx hb dLW_law_43 (lv_at hl 0 rfl) ?_
  refine lv_aload_n hx hb dLW_law_45 rfl (lv_at hl 4 rfl) ?_
  refine va_slen hx hb hX hbl hbA hS dLW_law_46 ?_
  refine qn_eq (y := nI Ln) rfl ?_
  refine lv_bipush (v := nI 6) hx hb dLW_law_47 (by decide +kernel) ?_
  refine qn_isub hx hb dLW_law_49 (by omega) ?_
  refine qn_cgt (tgt := 747) hx hb dLW_law_50 (by decide) (by omega) (by omega) (fun c_50 => ?_) (fun c_50 => ?_)
  · exact absurd c_50 (by omega)
  · refine lv_aload_n hx hb dLW_law_53 rfl (lv_at hl 4 rfl) ?_
    refine lv_iload hx hb dLW_law_54 (lv_at hl 0 rfl) ?_
    refine va_sld hx hb hX hbl hbA hS (i := nI i) (vp_in_nI (by omega) (by omega)) dLW_law_56 ?_
    refine qn_eq (y := xs i) (congrArg xs (nI_nat (k := i) (by omega))) ?_
    refine lv_bipush (v := nI 15) hx hb dLW_law_57 (by decide +kernel) ?_
    refine lv_iand hx hb dLW_law_59 ?_
    obtain ⟨k9, hk9, e9⟩ := q_and15 (xs i)
    refine qn_eq (y := nI k9) e9 ?_
    rcases (show k9 = 0 ∨ k9 = 1 ∨ k9 = 2 ∨ k9 = 3 ∨ k9 = 4 ∨ k9 = 5 ∨ k9 = 6 ∨ k9 = 7 ∨ k9 = 8 ∨ k9 = 9 ∨ k9 = 10 ∨ k9 = 11 ∨ k9 = 12 ∨ k9 = 13 ∨ k9 = 14 ∨ k9 = 15 by omega) with q9 | q9 | q9 | q9 | q9 | q9 | q9 | q9 | q9 | q9 | q9 | q9 | q9 | q9 | q9 | q9 <;> subst q9
    · refine lv_tableIn (x := nI 0) (off := 80) (tgt := 140) hx hb dLW_law_60 (by decide +kernel) (by decide +kernel) rfl (by decide +kernel) ?_
      rcases Nat.lt_or_ge C 3 with g3 | g3
      · exact law_0a hG0 hN hI hi g3 hP hD hS hl
      · exact law_0b hG0 hN hI hi (by omega) hP hD hS hl
    · refine lv_tableIn (x := nI 1) (off := 93) (tgt := 153) hx hb dLW_law_60 (by decide +kernel) (by decide +kernel) rfl (by decide +kernel) ?_
      by_cases hs : ((nI 0 ≤ xs (i + 1) ∧ xs (i + 1) ≤ nI (C - 1)) ∧ (nI 0 ≤ xs (i + 2) ∧ xs (i + 2) ≤ nI (Rz - 1)))
      · obtain ⟨a0, -, a0h, h1⟩ := q_rng (by omega) (by omega) hs.1
        obtain ⟨k0, -, k0h, h2⟩ := q_rng (by omega) (by omega) hs.2
        by_cases hg9 : ((nI 1 ≤ xs (i + 3) ∧ xs (i + 3) ≤ nI 4) ∧ (nI 1 ≤ xs (i + 4) ∧ xs (i + 4) ≤ nI 4) ∧ (nI 1 ≤ xs (i + 5) ∧ xs (i + 5) ≤ nI 3))
        · obtain ⟨c0, c0l, c0h, h3⟩ := q_rng (by omega) (by omega) hg9.1
          obtain ⟨d0, d0l, d0h, h4⟩ := q_rng (by omega) (by omega) hg9.2.1
          obtain ⟨e0, e0l, e0h, h5⟩ := q_rng (by omega) (by omega) hg9.2.2
          rcases Nat.lt_or_ge 400 (sta (C * Rz) - (pr (a0 * Rz + k0) * bd (a0 * Rz + k0) * (wd (a0 * Rz + k0) * ht (a0 * Rz + k0))) + (c0 * bd (a0 * Rz + k0) * d0 * e0)) with hbig | hbig
          · exact law_1c hG0 hN hI hi a0 k0 (by omega) (by omega) h1 h2 c0 d0 e0 h3 h4 h5 ⟨c0l, c0h⟩ ⟨d0l, d0h⟩ ⟨e0l, e0h⟩ hbig hP hD hS hl
          · exact law_1d hG0 hN hI hi a0 k0 (by omega) (by omega) h1 h2 c0 d0 e0 h3 h4 h5 ⟨c0l, c0h⟩ ⟨d0l, d0h⟩ ⟨e0l, e0h⟩ hbig hP hD hS hl
        · exact law_1b hG0 hN hI hi a0 k0 (by omega) (by omega) h1 h2 hg9 hP hD hS hl
      · exact law_1a hG0 hN hI hi hs hP hD hS hl
    · refine lv_tableIn (x := nI 2) (off := 169) (tgt := 229) hx hb dLW_law_60 (by decide +kernel) (by decide +kernel) rfl (by decide +kernel) ?_
      by_cases hs : ((nI 0 ≤ xs (i + 1) ∧ xs (i + 1) ≤ nI (C - 1)) ∧ (nI 0 ≤ xs (i + 2) ∧ xs (i + 2) ≤ nI (Rz - 1)))
      · obtain ⟨a0, -, a0h, h1⟩ := q_rng (by omega) (by omega) hs.1
        obtain ⟨k0, -, k0h, h2⟩ := q_rng (by omega) (by omega) hs.2
        cases hg9 : m_has (jp (4 * a0 + k0)) (m_bnd (4 * a0 + k0)) (jw (4 * a0 + k0) * jh (4 * a0 + k0)) (xs (i + 3)) (xs (i + 4)) (xs (i + 5)) with
        | false => exact law_2b hG0 hN hI hi a0 k0 (by omega) (by omega) h1 h2 hg9 hP hD hS hl
        | true =>
          obtain ⟨g1, g2, g3⟩ := m_has_of hg9
          have w1 := sl_limJ uA (show a0 < C by omega) (show k0 < Rz by omega)
          have w2 := m_bnd_le (4 * a0 + k0)
          have w3 := sl_posJ uA (show a0 < C by omega) (show k0 < Rz by omega)
          have w4 := m_bnd_1 (4 * a0 + k0)
          obtain ⟨c0, -, c0h, h3⟩ := q_rng (by omega) (by omega) g1
          obtain ⟨d0, -, d0h, h4⟩ := q_rng (by omega) (by omega) g2
          obtain ⟨e0, -, e0h, h5⟩ := q_rng (by omega) (by omega) g3
          exact law_2c hG0 hN hI hi a0 k0 (by omega) (by omega) h1 h2 c0 d0 e0 h3 h4 h5 (by omega) (by omega) (by omega) hP hD hS hl
      · exact law_2a hG0 hN hI hi hs hP hD hS hl
    · refine lv_tableIn (x := nI 3) (off := 245) (tgt := 305) hx hb dLW_law_60 (by decide +kernel) (by decide +kernel) rfl (by decide +kernel) ?_
      by_cases hs : (nI 0 ≤ xs (i + 1) ∧ xs (i + 1) ≤ nI (L - 1))
      · by_cases hg9 : ((nI 0 ≤ xs (i + 2) ∧ xs (i + 2) ≤ nI 164) ∧ (nI 0 ≤ xs (i + 3) ∧ xs (i + 3) ≤ nI 65535))
        · obtain ⟨y0, -, y0h, h1⟩ := q_rng (by omega) (by omega) hs
          obtain ⟨n0, -, n0h, h2⟩ := q_rng (by omega) (by omega) hg9.1
          obtain ⟨w0, -, w0h, h3⟩ := q_rng (by omega) (by omega) hg9.2
          exact law_3c hG0 hN hI hi y0 n0 w0 h1 h2 h3 (by omega) n0h w0h hP hD hS hl
        · exact law_3b hG0 hN hI hi hs hg9 hP hD hS hl
      · exact law_3a hG0 hN hI hi hs hP hD hS hl
    · refine lv_tableIn (x := nI 4) (off := 294) (tgt := 354) hx hb dLW_law_60 (by decide +kernel) (by decide +kernel) rfl (by decide +kernel) ?_
      by_cases hs : nI 0 ≤ xs (i + 1) ∧ xs (i + 1) ≤ nI 30
      · obtain ⟨v0, -, v0h, h1⟩ := q_rng (by omega) (by omega) hs
        exact law_4b hG0 hN hI hi v0 h1 v0h hP hD hS hl
      · exact law_4a hG0 hN hI hi hs hP hD hS hl
    · refine lv_tableIn (x := nI 5) (off := 319) (tgt := 379) hx hb dLW_law_60 (by decide +kernel) (by decide +kernel) rfl (by decide +kernel) ?_
      by_cases hs : ((nI 0 ≤ xs (i + 1) ∧ xs (i + 1) ≤ nI 4) ∧ (nI 1 ≤ xs (i + 2) ∧ xs (i + 2) ≤ nI 8) ∧ (nI 1 ≤ xs (i + 3) ∧ xs (i + 3) ≤ nI 4) ∧ (nI 1 ≤ xs (i + 4) ∧ xs (i + 4) ≤ nI 3))
      · obtain ⟨a0, -, a0h, h1⟩ := q_rng (by omega) (by omega) hs.1
        obtain ⟨y0, y0l, y0h, h2⟩ := q_rng (by omega) (by omega) hs.2.1
        obtain ⟨w0, w0l, w0h, h3⟩ := q_rng (by omega) (by omega) hs.2.2.1
        obtain ⟨k0, k0l, k0h, h4⟩ := q_rng (by omega) (by omega) hs.2.2.2
        have g6 := uP.1
        rcases Nat.lt_or_ge pts 6 with g7 | g7
        · exact law_5c hG0 hN hI hi a0 y0 w0 k0 h1 h2 h3 h4 a0h ⟨y0l, y0h⟩ ⟨w0l, w0h⟩ ⟨k0l, k0h⟩ g7 hP hD hS hl
        · exact law_5b hG0 hN hI hi a0 y0 w0 k0 h1 h2 h3 h4 a0h ⟨y0l, y0h⟩ ⟨w0l, w0h⟩ ⟨k0l, k0h⟩ (by omega) hP hD hS hl
      · exact law_5a hG0 hN hI hi hs hP hD hS hl
    · refine lv_tableIn (x := nI 6) (off := 383) (tgt := 443) hx hb dLW_law_60 (by decide +kernel) (by decide +kernel) rfl (by decide +kernel) ?_
      exact law_6 hG0 hN hI hi hP hD hS hl
    · refine lv_tableIn (x := nI 7) (off := 396) (tgt := 456) hx hb dLW_law_60 (by decide +kernel) (by decide +kernel) rfl (by decide +kernel) ?_
      exact law_7 hG0 hN hI hi hP hD hS hl
    · refine lv_tableIn (x := nI 8) (off := 409) (tgt := 469) hx hb dLW_law_60 (by decide +kernel) (by decide +kernel) rfl (by decide +kernel) ?_
      by_cases hs : ((nI 0 ≤ xs (i + 1) ∧ xs (i + 1) ≤ nI X.2.1 - nI 1) ∧ (nI 0 ≤ xs (i + 2) ∧ xs (i + 2) ≤ nI 4))
      · have h384 := (iX_use uA uP uX jen Y).1
        have h385 := (iX_use uA uP uX jen Y).2.1
        obtain ⟨k0, hk, h1⟩ := q_rngM (by omega) hs.1
        obtain ⟨y0, -, y0h, h2⟩ := q_rng (by omega) (by omega) hs.2
        by_cases h9 : y0 < 4
        · exact law_8b hG0 hN hI hi k0 h1 hk y0 h2 h9 hP hD hS hl
        · obtain rfl : y0 = 4 := by omega
          cases hw : wt with
          | false =>
            cases hz : fz with
            | false => exact law_8c hG0 hN hI hi k0 h1 hk h2 hw hz hP hD hS hl
            | true => exact law_8d hG0 hN hI hi k0 h1 hk h2 hw hz hP hD hS hl
          | true =>
            cases hz : fz with
            | false => exact law_8e hG0 hN hI hi k0 h1 hk h2 hw hz hP hD hS hl
            | true => exact law_8f hG0 hN hI hi k0 h1 hk h2 hw hz hP hD hS hl
      · exact law_8a hG0 hN hI hi hs hP hD hS hl
    · refine lv_tableIn (x := nI 9) (off := 449) (tgt := 509) hx hb dLW_law_60 (by decide +kernel) (by decide +kernel) rfl (by decide +kernel) ?_
      rcases Nat.lt_or_ge 6000 ((r_it (r_pk false jby jz jps jln jw jh (co_list jpr jp L Rz C pts jen Y).2.2.2.1 msz L) (co_list jpr jp L Rz C pts jen Y).2.2.1 (rZ0 jgr jlo jdo jrz jrf jrp jrl mle mno mla jdr)).2.2.2.2.2.2.2.2.2.2.2.2.1) with hb9 | hb9
      · exact law_9a hG0 hN hI hi hb9 hP hD hS hl
      · exact law_9b hG0 hN hI hi hb9 hP hD hS hl
    · refine lv_tableIn (x := nI 10) (off := 462) (tgt := 522) hx hb dLW_law_60 (by decide +kernel) (by decide +kernel) rfl (by decide +kernel) ?_
      by_cases hs : (nI 1 ≤ xs (i + 1) ∧ xs (i + 1) ≤ nI 8)
      · obtain ⟨n0, n0l, n0h, h1⟩ := q_rng (by omega) (by omega) hs
        rcases Nat.lt_or_ge 6000 (bz + n0) with g2 | g2
        · exact law_10b hG0 hN hI hi n0 h1 ⟨n0l, n0h⟩ g2 hP hD hS hl
        · exact law_10c hG0 hN hI hi n0 h1 ⟨n0l, n0h⟩ g2 hP hD hS hl
      · exact law_10a hG0 hN hI hi hs hP hD hS hl
    · refine lv_tableIn (x := nI 11) (off := 534) (tgt := 594) hx hb dLW_law_60 (by decide +kernel) (by decide +kernel) rfl (by decide +kernel) ?_
      exact law_11 hG0 hN hI hi hP hD hS hl
    · refine lv_tableIn (x := nI 12) (off := 547) (tgt := 607) hx hb dLW_law_60 (by decide +kernel) (by decide +kernel) rfl (by decide +kernel) ?_
      by_cases hs : nI 0 ≤ xs (i + 1) ∧ xs (i + 1) ≤ nI bz - nI 1
      · obtain ⟨k0, hk, h1⟩ := q_rngM uB.1 hs
        exact law_12b hG0 hN hI hi k0 h1 hk hP hD hS hl
      · exact law_12a hG0 hN hI hi hs hP hD hS hl
    · refine lv_tableIn (x := nI 13) (off := 572) (tgt := 632) hx hb dLW_law_60 (by decide +kernel) (by decide +kernel) rfl (by decide +kernel) ?_
      rcases first_flt (fun j => (cRd Rz L C sta pr bd wd ht rps rln rzs f bz g vs1 vs2 X.2.2.1 gr bn lo1 dn1 lo2 dn2 ru rl j).2.2.2.2.2.2.2.2.2.1) rfl X.2.1 with hz | ⟨k8, hk8, hz, hzf⟩
      · exact law_13a hG0 hN hI hi hz hP hD hS hl
      · exact law_13b hG0 hN hI hi k8 hk8 hz hzf hP hD hS hl
    · refine lv_tableIn (x := nI 14) (off := 585) (tgt := 645) hx hb dLW_law_60 (by decide +kernel) (by decide +kernel) rfl (by decide +kernel) ?_
      by_cases hs : ((nI 0 ≤ xs (i + 1) ∧ xs (i + 1) ≤ nI (L - 1)) ∧ (nI 0 ≤ xs (i + 2) ∧ xs (i + 2) ≤ nI 3))
      · obtain ⟨y0, -, y0h, h1⟩ := q_rng (by omega) (by omega) hs.1
        obtain ⟨w0, -, w0h, h2⟩ := q_rng (by omega) (by omega) hs.2
        rcases (show w0 = 0 ∨ w0 = 1 ∨ w0 = 2 ∨ w0 = 3 by omega) with q9 | q9 | q9 | q9 <;> subst q9
        · exact law_14b hG0 hN hI hi y0 h1 h2 (by omega) hP hD hS hl
        · exact law_14c hG0 hN hI hi y0 h1 h2 (by omega) hP hD hS hl
        · exact law_14d hG0 hN hI hi y0 h1 h2 (by omega) hP hD hS hl
        · exact law_14e hG0 hN hI hi y0 h1 h2 (by omega) hP hD hS hl
      · exact law_14a hG0 hN hI hi hs hP hD hS hl
    · refine lv_tableIn (x := nI 15) (off := 625) (tgt := 685) hx hb dLW_law_60 (by decide +kernel) (by decide +kernel) rfl (by decide +kernel) ?_
      by_cases hs : nI 0 ≤ xs (i + 1) ∧ xs (i + 1) ≤ nI 5
      · obtain ⟨v0, -, v0h, h1⟩ := q_rng (by omega) (by omega) hs
        rcases (show v0 = 0 ∨ v0 = 1 ∨ v0 = 2 ∨ v0 = 3 ∨ v0 = 4 ∨ v0 = 5 by omega) with q9 | q9 | q9 | q9 | q9 | q9 <;> subst q9
        · exact law_15b hG0 hN hI hi h1 hP hD hS hl
        · exact law_15c hG0 hN hI hi h1 hP hD hS hl
        · exact law_15d hG0 hN hI hi h1 hP hD hS hl
        · exact law_15e hG0 hN hI hi h1 hP hD hS hl
        · exact law_15f hG0 hN hI hi h1 hP hD hS hl
        · exact law_15g hG0 hN hI hi h1 hP hD hS hl
      · exact law_15a hG0 hN hI hi hs hP hD hS hl
theorem law_all {p : Program} {e : Env} {s : State} {m : MethodId} {below : List Frame} {meth : Method} {c : Code} {l : Launch} {b Ln : Nat} {xs : Nat → Int32} {dC : Nat → ClassId} {dI : Nat → Nat → Nat} {cI cZ cL : ClassId} {A : Nat → Prop} (hG0 : lw_C p s m meth c l b Ln xs dC dI cI cZ cL A) (hLn : Ln ≤ 3074) {x pi ab ap aw ah aq tr tap tal taz rr rap ral raz o po pe pl li en ax br row wr bg rd hd hp hg hbg t1 v1 l1 d1 q1 t2 v2 l2 d2 q2 mo kp kw kh kz kps kln krz krf krp krl kpr kro kha kbe kby kgr klo kdo kdr ken ktu kda ou L Rz : Nat} : ∀ k i, 2 ≤ i → i ≤ 3080 → Ln < i + 6 * k → lwLP p e s m below meth c l b dC dI cI cZ cL A x pi ab ap aw ah aq tr tap tal taz rr rap ral raz o po pe pl li en ax br row wr bg rd hd hp hg hbg t1 v1 l1 d1 q1 t2 v2 l2 d2 q2 mo kp kw kh kz kps kln krz krf krp krl kpr kro kha kbe kby kgr klo kdo kdr ken ktu kda ou L Rz i
  | 0, i, h2, hi, hk => by
    unfold lwLP
    intro cs co wt lf lr C bd pr wd ht sta tps tln tzs rps rln rzs pts X fo fe fn bz f wf wz wm wc wfr bgf rf rc ru rl g gr bn vs1 lo1 dn1 pa1 vs2 lo2 dn2 pa2 th ch Y fz msz mf mov rds dr mat mle mno mla jp jw jh jz jps jln jrz jrf jrp jrl jpr jbe jby jgr jlo jdo jdr jen jda fo_ H locs ls hI hP hD hS hl
    exact law_exit hG0 h2 (by omega) hi hLn hS hl
  | k + 1, i, h2, hi, hk => by
    by_cases h6 : i + 6 ≤ Ln
    · exact law_top hG0 (law_all hG0 hLn k (i + 6) (by omega) (by omega) (by omega)) ⟨h2, h6, hLn⟩
    · unfold lwLP
      intro cs co wt lf lr C bd pr wd ht sta tps tln tzs rps rln rzs pts X fo fe fn bz f wf wz wm wc wfr bgf rf rc ru rl g gr bn vs1 lo1 dn1 pa1 vs2 lo2 dn2 pa2 th ch Y fz msz mf mov rds dr mat mle mno mla jp jw jh jz jps jln jrz jrf jrp jrl jpr jbe jby jgr jlo jdo jdr jen jda fo_ H locs ls hI hP hD hS hl
      exact law_exit hG0 h2 (by omega) hi hLn hS hl


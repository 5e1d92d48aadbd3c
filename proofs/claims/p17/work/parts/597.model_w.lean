/-! slots, as the law's calls need them -/
section SLW
variable {L Rz C : Nat} {bd pr wd ht sta jp jw jh : Nat → Nat} {a b c0 d0 e0 : Nat}
theorem sl_pos (h : iA L Rz C bd pr wd ht sta jp jw jh) (ha : a < C) (hb : b < Rz) : 1 ≤ pr (a * Rz + b) ∧ 1 ≤ bd (a * Rz + b) ∧ 1 ≤ wd (a * Rz + b) * ht (a * Rz + b) := by
  obtain ⟨k1, k2, k3, k4⟩ := h.2.2.2.1.2 (a * Rz + b) (m_in ha hb)
  exact ⟨k1.1, k2.1, Nat.mul_pos k3.1 k4.1⟩
theorem sl_lim (h : iA L Rz C bd pr wd ht sta jp jw jh) (ha : a < C) (hb : b < Rz) : pr (a * Rz + b) ≤ 4 ∧ bd (a * Rz + b) ≤ 3 ∧ wd (a * Rz + b) * ht (a * Rz + b) ≤ 12 := by
  obtain ⟨k1, k2, k3, k4⟩ := h.2.2.2.1.2 (a * Rz + b) (m_in ha hb)
  exact ⟨k1.2, k2.2, Nat.mul_le_mul k3.2 k4.2⟩
theorem sl_posJ (h : iA L Rz C bd pr wd ht sta jp jw jh) (ha : a < C) (hb : b < Rz) : 1 ≤ jp (4 * a + b) ∧ 1 ≤ jw (4 * a + b) * jh (4 * a + b) := by
  obtain ⟨k1, k2, k3, -⟩ := iA_at h ha hb
  obtain ⟨g1, -, g3⟩ := sl_pos h ha hb
  rw [k1, k2, k3]; exact ⟨g1, g3⟩
theorem sl_limJ (h : iA L Rz C bd pr wd ht sta jp jw jh) (ha : a < C) (hb : b < Rz) : jp (4 * a + b) ≤ 4 ∧ jw (4 * a + b) * jh (4 * a + b) ≤ 12 := by
  obtain ⟨k1, k2, k3, -⟩ := iA_at h ha hb
  obtain ⟨g1, -, g3⟩ := sl_lim h ha hb
  rw [k1, k2, k3]; exact ⟨g1, g3⟩
theorem old_same (h : iA L Rz C bd pr wd ht sta jp jw jh) (ha : a < C) (hb : b < Rz) : jp (4 * a + b) * m_bnd (4 * a + b) * jw (4 * a + b) * jh (4 * a + b) = pr (a * Rz + b) * bd (a * Rz + b) * (wd (a * Rz + b) * ht (a * Rz + b)) := by
  obtain ⟨k1, k2, k3, k4⟩ := iA_at h ha hb
  rw [k1, k2, k3, ← k4, Nat.mul_assoc (pr (a * Rz + b) * bd (a * Rz + b))]
theorem gr_same (h : iA L Rz C bd pr wd ht sta jp jw jh) (ha : a < C) (hb : b < Rz) : m_bef jp jw jh C Rz 12 - (jp (4 * a + b) * m_bnd (4 * a + b) * jw (4 * a + b) * jh (4 * a + b)) + (c0 * m_bnd (4 * a + b) * d0 * e0) = sta (C * Rz) - (pr (a * Rz + b) * bd (a * Rz + b) * (wd (a * Rz + b) * ht (a * Rz + b))) + (c0 * bd (a * Rz + b) * d0 * e0) := by
  rw [bef_12 h, old_same h ha hb, (iA_at h ha hb).2.2.2]
theorem gr_ho (h : iA L Rz C bd pr wd ht sta jp jw jh) (ha : a < C) (hb : b < Rz) : (jp (4 * a + b) * m_bnd (4 * a + b) * jw (4 * a + b) * jh (4 * a + b)) ≤ m_bef jp jw jh C Rz 12 := by
  rw [bef_12 h, old_same h ha hb]
  exact Nat.le_trans (Nat.le_add_left _ _) (iA_in h (m_in ha hb))
theorem most_424 (h : iA L Rz C bd pr wd ht sta jp jw jh) : sta (C * Rz) ≤ 424 := Nat.le_trans (iA_most h) (m_most_le h.2.1.1 h.2.1.2).1
theorem gr_hb4 (h : iA L Rz C bd pr wd ht sta jp jw jh) : m_bef jp jw jh C Rz 12 ≤ 2 ^ 20 := by
  rw [bef_12 h]
  have := most_424 h
  omega
theorem gr_mo (h : iA L Rz C bd pr wd ht sta jp jw jh) (ha : a < C) (hb : b < Rz) (q1 : 1 ≤ c0 ∧ c0 ≤ 4) (q2 : 1 ≤ d0 ∧ d0 ≤ 4) (q3 : 1 ≤ e0 ∧ e0 ≤ 3) (hbig : sta (C * Rz) - (pr (a * Rz + b) * bd (a * Rz + b) * (wd (a * Rz + b) * ht (a * Rz + b))) + (c0 * bd (a * Rz + b) * d0 * e0) ≤ 400) : sta (C * Rz) - (pr (a * Rz + b) * bd (a * Rz + b) * (wd (a * Rz + b) * ht (a * Rz + b))) + (c0 * bd (a * Rz + b) * d0 * e0) ≤ m_most Rz := by
  have h1 := iA_most (iA_grid h ha hb q1 q2 q3 hbig)
  have h2 := gr_gt (c0 := c0) (d0 := d0) (e0 := e0) h (m_in ha hb) (Nat.le_refl _)
  have h3 := iA_in h (m_in ha hb)
  have e1 : c0 * bd (a * Rz + b) * d0 * e0 = c0 * bd (a * Rz + b) * (d0 * e0) := Nat.mul_assoc _ _ _
  omega
theorem cm_ge (h : iA L Rz C bd pr wd ht sta jp jw jh) : sta (C * Rz) ≤ m_starts (m_put m_one (C * Rz) Rz pr) (m_put m_b13 (C * Rz) Rz bd) (m_put m_one (C * Rz) Rz wd) (m_put m_one (C * Rz) Rz ht) sta ((C + 1) * Rz) ((C + 1) * Rz) := by
  have h1 := cm_hi h Rz h.2.1.1 (Nat.le_refl _)
  rw [← (show (C + 1) * Rz = C * Rz + Rz from Nat.succ_mul _ _)] at h1
  omega
theorem has_same (h : iA L Rz C bd pr wd ht sta jp jw jh) (ha : a < C) (hb : b < Rz) {x y z : Int32} : m_has (pr (a * Rz + b)) (bd (a * Rz + b)) (wd (a * Rz + b) * ht (a * Rz + b)) x y z = m_has (jp (4 * a + b)) (m_bnd (4 * a + b)) (jw (4 * a + b) * jh (4 * a + b)) x y z := by
  obtain ⟨k1, k2, k3, k4⟩ := iA_at h ha hb
  rw [k1, k2, k3, ← k4]
theorem chs_same (h : iA L Rz C bd pr wd ht sta jp jw jh) (ha : a < C) (hb : b < Rz) : sta (a * Rz + b) + ((c0 * bd (a * Rz + b) + d0) * (wd (a * Rz + b) * ht (a * Rz + b)) + e0) = m_bef jp jw jh C Rz (4 * a + b) + ((c0 * m_bnd (4 * a + b) + d0) * (jw (4 * a + b) * jh (4 * a + b)) + e0) := by
  obtain ⟨k1, k2, k3, k4⟩ := iA_at h ha hb
  rw [bef_at h ha hb, k2, k3, ← k4]
end SLW
/-! the readers' walks -/
abbrev cRd (Rz L C : Nat) (sta pr bd wd ht rps rln rzs f : Nat → Nat) (bz : Nat) (g : Nat → Option Nat) (vs1 vs2 pl gr : Nat → Nat) (bn : Nat → Bool) (lo1 : Nat → Nat) (dn1 : Nat → Bool) (lo2 : Nat → Nat) (dn2 : Nat → Bool) (ru rl j : Nat) : hS rT := t_it (pkR f bz (m_gath (m_sg sta pr bd wd ht (m_fill none (2 * m_most Rz) g) (C * Rz)) (m_sv (m_fv (m_fill 0 (m_most Rz * L) rps) L) sta pr bd wd ht (m_fill 1000 (2 * (sta (C * Rz))) vs1) (C * Rz)) (2 * (sta (C * Rz)))) (m_gath (m_sg sta pr bd wd ht (m_fill none (2 * m_most Rz) g) (C * Rz)) (m_sv (m_fill 0 (m_most Rz) rzs) sta pr bd wd ht (m_fill 1000 (2 * (sta (C * Rz))) vs2) (C * Rz)) (2 * (sta (C * Rz)))) pl sta bd wd ht L Rz) j (((m_fill 0 (m_most Rz * L) rps), (m_fill 0 (m_most Rz * L) rln), (m_fill 0 (m_most Rz) rzs), m_fill 3 (sta (C * Rz)) gr, m_fill false (sta (C * Rz)) bn, m_fill 0 (2 * (sta (C * Rz))) lo1, m_fill false (2 * (sta (C * Rz))) dn1, m_fill 0 (2 * (sta (C * Rz))) lo2, m_fill false (2 * (sta (C * Rz))) dn2, ((0, 0, ru, rl) : rS)) : xR)
abbrev mRd (jby jz jps jln jw jh jro : Nat → Nat) (msz L : Nat) (jgr jlo : Nat → Nat) (jdo : Nat → Bool) (jrz : Nat → Nat) (jrf : Nat → Option Nat) (jrp jrl : Nat → Nat) (mle mno mla : Nat) (jdr : Nat → Nat) (j : Nat) : kS := r_it (r_pk true jby jz jps jln jw jh jro msz L) j ((m_fill 3 1728 jgr, m_fill 0 4896 jlo, m_fill false 4896 jdo, (m_put (fun _ => 0) 0 (1728 - 0) (jrz)), (m_put (fun _ => none) 0 (1728 - 0) (jrf)), (m_put (fun _ => 0) (8 * 0) (8 * 1728 - 8 * 0) (jrp)), (m_put (fun _ => 0) (8 * 0) (8 * 1728 - 8 * 0) (jrl)), 0, 0, mle, mno, mla, 0, jdr) : kS)
/-! numbers of the script -/
theorem q_rngM {v : Int32} {n : Nat} (h2 : n ≤ 6000) (h : nI 0 ≤ v ∧ v ≤ nI n - nI 1) : ∃ k, k < n ∧ v = nI k := by
  by_cases c : n = 0
  · subst c; exact absurd h f_out
  · rw [pk_sub (by omega)] at h
    obtain ⟨k, -, q, e⟩ := q_rng (by omega) (by omega) h
    exact ⟨k, by omega, e⟩
theorem nI_inc6 {i : Nat} : nI i + Int32.ofInt 6 = nI (i + 6) := by
  rw [show Int32.ofInt 6 = nI 6 by decide +kernel]
  exact nI_add i 6

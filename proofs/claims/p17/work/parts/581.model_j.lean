/-! a block, written by both -/
theorem m_first_eq {ps jps : Nat → Nat} {b b2 L : Nat} (h : ∀ y, y < L → ps (b * L + y) = jps (8 * b2 + y)) : m_first ps b L = r_first jps b2 L := by
  have h1 := m_first_le ps b L
  by_cases c : ∃ i, i < L ∧ 0 < ps (b * L + i) ∧ ∀ j, j < i → ps (b * L + j) = 0
  · obtain ⟨i, h2, h3, h4⟩ := c
    rw [m_first_at h4 h2 h3, r_first_at (fun j hj => by rw [← h j (by omega)]; exact h4 j hj) h2 (by rw [← h i h2]; exact h3)]
  · have hz : ∀ i, i ≤ L → ∀ j, j < i → ps (b * L + j) = 0 := by
      intro i
      induction i with
      | zero => intro _ j hj; exact absurd hj (Nat.not_lt_zero _)
      | succ i ih =>
        intro hi j hj
        rcases Nat.lt_succ_iff_lt_or_eq.mp hj with z | z
        · exact ih (by omega) j z
        · subst z
          rcases Nat.eq_zero_or_pos (ps (b * L + j)) with w | w
          · exact w
          · exact absurd ⟨j, by omega, w, ih (by omega)⟩ c
    rw [m_first_no (fun j hj => hz L (Nat.le_refl _) j hj), r_first_no (fun j hj => by rw [← h j hj]; exact hz L (Nat.le_refl _) j hj)]
theorem m_first_pos {ps : Nat → Nat} {b L y : Nat} (h : m_first ps b L = y) (hy : y < L) : 0 < ps (b * L + y) := by
  by_cases c : ∃ i, i < L ∧ 0 < ps (b * L + i) ∧ ∀ j, j < i → ps (b * L + j) = 0
  · obtain ⟨i, h2, h3, h4⟩ := c
    rw [m_first_at h4 h2 h3] at h
    rw [← h]; exact h3
  · have hz : ∀ i, i ≤ L → ∀ j, j < i → ps (b * L + j) = 0 := by
      intro i
      induction i with
      | zero => intro _ j hj; exact absurd hj (Nat.not_lt_zero _)
      | succ i ih =>
        intro hi j hj
        rcases Nat.lt_succ_iff_lt_or_eq.mp hj with z | z
        · exact ih (by omega) j z
        · subst z
          rcases Nat.eq_zero_or_pos (ps (b * L + j)) with w | w
          · exact w
          · exact absurd ⟨j, by omega, w, ih (by omega)⟩ c
    rw [m_first_no (fun j hj => hz L (Nat.le_refl _) j hj)] at h
    omega
section BR
variable {sta pr bd wd ht V1 V2 tps tln tzs jps jln jz : Nat → Nat} {n Rz L : Nat}
def gR (sta pr bd wd ht : Nat → Nat) (n Rz : Nat) (gr jgr : Nat → Nat) : Prop := ∀ s, s < n → ∀ q, q < pr s * bd s → ∀ e, e < wd s * ht s → gr (cB sta wd ht s q e) = jgr (mB Rz wd ht s q e) ∧ gr (cB sta wd ht s q e) ≤ 16
/-- class and reference, between two blocks -/
def HR (sta pr bd wd ht V1 V2 tps tln tzs : Nat → Nat) (n Rz : Nat) (Y : hS wT) (Z : kS) : Prop := (Y.1 = tps ∧ Y.2.1 = tln ∧ Y.2.2.1 = tzs) ∧ gR sta pr bd wd ht n Rz Y.2.2.2.1 Z.1 ∧ nR sta pr bd wd ht V1 n Rz 0 Y.2.2.2.2.2.1 Y.2.2.2.2.2.2.1 Z.2.1 Z.2.2.1 ∧ nR sta pr bd wd ht V2 n Rz 2448 Y.2.2.2.2.2.2.2.1 Y.2.2.2.2.2.2.2.2.1 Z.2.1 Z.2.2.1
theorem gR_up (h : shp sta pr bd wd ht n) (hR : 1 ≤ Rz ∧ Rz ≤ 4) {gr jgr : Nat → Nat} {s q e k : Nat} (hs : s < n) (hq : q < pr s * bd s) (he : e < wd s * ht s) (hk : k ≤ 16) (hg : gR sta pr bd wd ht n Rz gr jgr) : gR sta pr bd wd ht n Rz (va_up gr (cB sta wd ht s q e) k) (va_up jgr (mB Rz wd ht s q e) k) := by
  intro t ht1 p hp x hx
  by_cases c : cB sta wd ht t p x = cB sta wd ht s q e
  · obtain ⟨z1, z2, z3⟩ := cB_inj h ht1 hp hx hs hq he c
    subst z1; subst z2; subst z3
    rw [va_up_self, va_up_self]
    exact ⟨rfl, hk⟩
  · have c2 : ¬ mB Rz wd ht t p x = mB Rz wd ht s q e := fun z => by
      obtain ⟨z1, z2, z3⟩ := mB_inj h hR ht1 hp hx hs hq he z
      subst z1; subst z2; subst z3
      exact c rfl
    rw [va_up_ne _ _ c, va_up_ne _ _ c2]
    exact hg t ht1 p hp x hx
theorem r_w_f {α : Type} {g : Nat → α} {i : Nat} {v : α} : r_w false g i v = g := by unfold r_w; rw [if_neg (by decide)]
set_option maxHeartbeats 4000000 in
theorem b2_rel {ms : Bool} {f : Nat → Nat} {z s q e y : Nat} {Y : hS wT} {Z : kS} (h : shp sta pr bd wd ht n) (hR : 1 ≤ Rz ∧ Rz ≤ 4) (hs : s < n) (hq : q < pr s * bd s) (he : e < wd s * ht s)
    (t1 : tps (cB sta wd ht s q e * L + y) = jps (8 * mB Rz wd ht s q e + y)) (t2 : tln (cB sta wd ht s q e * L + y) = jln (8 * mB Rz wd ht s q e + y)) (p1 : 1 ≤ tps (cB sta wd ht s q e * L + y)) (p2 : tps (cB sta wd ht s q e * L + y) ≤ 164) (p3 : tln (cB sta wd ht s q e * L + y) < 2 ^ 16)
    (hH : HR sta pr bd wd ht V1 V2 tps tln tzs n Rz Y Z) (hb : Bs ms Y.2.2.2.2.2.2.2.2.2 Z.2.2.2.2.2.2.2) :
    HR sta pr bd wd ht V1 V2 tps tln tzs n Rz (t_b2 (fpW ms) (flW ms) L y (cB sta wd ht s q e) Y) (r_b3 false f jps jln z (8 * mB Rz wd ht s q e + y) (mB Rz wd ht s q e) Z) ∧ Bs ms (t_b2 (fpW ms) (flW ms) L y (cB sta wd ht s q e) Y).2.2.2.2.2.2.2.2.2 (r_b3 false f jps jln z (8 * mB Rz wd ht s q e + y) (mB Rz wd ht s q e) Z).2.2.2.2.2.2.2 ∧ (t_b2 (fpW ms) (flW ms) L y (cB sta wd ht s q e) Y).2.2.2.2.1 = Y.2.2.2.2.1 ∧ (t_b2 (fpW ms) (flW ms) L y (cB sta wd ht s q e) Y).2.2.2.2.2.2.1 = Y.2.2.2.2.2.2.1 := by
  obtain ⟨⟨a1, a2, a3⟩, a4, a5, a6⟩ := hH
  obtain ⟨s3, e3⟩ : ∃ z, z = fpW ms (Y.1 (cB sta wd ht s q e * L + y)) Y.2.2.2.2.2.2.2.2.2 := ⟨_, rfl⟩
  obtain ⟨s4, e4⟩ : ∃ z, z = flW ms s3.1 (Y.2.1 (cB sta wd ht s q e * L + y)) Y.2.2.2.1 (cB sta wd ht s q e) s3.2 := ⟨_, rfl⟩
  rw [t_b2_eq (fp := fpW ms) (fl := flW ms) (X := Y) e3 e4]
  rw [a1] at e3
  rw [a2] at e4
  obtain ⟨x, ex⟩ : ∃ q9, q9 = r_n false f z (jps (8 * mB Rz wd ht s q e + y)) Z.2.2.2.2.2.2.2 := ⟨_, rfl⟩
  have ex2 : x = fpM false f z (jps (8 * mB Rz wd ht s q e + y)) Z.2.2.2.2.2.2.2 := by rw [ex]; unfold r_n; rw [if_pos hb.2.1]
  have hp := pass_rel (f := f) (z := z) p1 p2 hb
  rw [← e3] at hp
  rw [t1, ← ex2] at hp
  obtain ⟨x4, ex4⟩ : ∃ q9, q9 = r_ln false f z (jln (8 * mB Rz wd ht s q e + y)) (mB Rz wd ht s q e) Z.1 x := ⟨_, rfl⟩
  have ex5 : x4 = flM false f z x.1 (jln (8 * mB Rz wd ht s q e + y)) (mB Rz wd ht s q e) Z.1 x.2 := by rw [ex4]; unfold r_ln; rw [if_pos hp.2.2.2.1]
  have hg := a4 s hs q hq e he
  have hx : s3.1 ≤ 164 := by rw [hp.1, ← t1]; exact p2
  have hl := len_rel (f := f) (z := z) (x := s3.1) p3 hx hg.1 hg.2 hp.2.2
  rw [← e4, t2, show s3.1 = x.1 from hp.1.trans hp.2.1.symm, ← ex5] at hl
  obtain ⟨l1, l2, ⟨k, k1, k2, k3⟩, l4⟩ := hl
  have er : r_b3 false f jps jln z (8 * mB Rz wd ht s q e + y) (mB Rz wd ht s q e) Z = (x4.2.1, Z.2.1, Z.2.2.1, Z.2.2.2.1, Z.2.2.2.2.1, Z.2.2.2.2.2.1, Z.2.2.2.2.2.2.1, x4.2.2) := by
    unfold r_b3 r_b4
    rw [← ex, ← ex4, r_w_f, r_w_f]
  rw [er]
  refine ⟨⟨⟨?_, ?_, a3⟩, ?_, a5, a6⟩, l4, rfl, rfl⟩
  · show va_up Y.1 (cB sta wd ht s q e * L + y) s3.1 = tps
    rw [hp.1, ← t1, a1, va_up_id]
  · show va_up Y.2.1 (cB sta wd ht s q e * L + y) s4.1 = tln
    rw [l1, ← t2, a2, va_up_id]
  · show gR sta pr bd wd ht n Rz s4.2.1 x4.2.1
    rw [k2, k3]
    exact gR_up h hR hs hq he k1 a4
/-- the values of a band's nodes, as the reference reckons them -/
def vR (V : Nat → Nat) (zr : Bool) (jz jps sta wd ht : Nat → Nat) (Rz L s q : Nat) : Prop := ∀ e, e < wd s * ht s → (∀ l, l < m_lev (wd s) (ht s) + 1 → V (aB sta wd ht s q + r_node (wd s) (ht s) e l) = r_vl false zr jz jps L (144 * gSl Rz s + q * (wd s * ht s)) (wd s) (ht s) e l) ∧ (∀ l, l + 1 < m_lev (wd s) (ht s) + 1 → r_vl false zr jz jps L (144 * gSl Rz s + q * (wd s * ht s)) (wd s) (ht s) e (l + 1) ≤ r_vl false zr jz jps L (144 * gSl Rz s + q * (wd s * ht s)) (wd s) (ht s) e l) ∧ r_vl false zr jz jps L (144 * gSl Rz s + q * (wd s * ht s)) (wd s) (ht s) e 0 = r_own zr jz jps L (144 * gSl Rz s + q * (wd s * ht s)) e
theorem nd_inj {s : Nat} (h : shp sta pr bd wd ht n) (hs : s < n) {e : Nat} (he : e < wd s * ht s) {a : Nat} : ∀ k, k < m_lev (wd s) (ht s) + 1 → ∀ j, j < m_lev (wd s) (ht s) + 1 → r_qq a (wd s) (ht s) e k = r_qq a (wd s) (ht s) e j → k = j := by
  intro k hk j hj z
  have h2 := h.2 s hs
  have lev := m_lev_le (wd s) (ht s)
  have u0 := nd_10 (wd s) (by omega) (ht s) (by omega) e he
  have u1 := nd_21 (wd s) (by omega) (ht s) (by omega) e he
  have z : a + r_node (wd s) (ht s) e k = a + r_node (wd s) (ht s) e j := z
  rcases (show k = 0 ∨ k = 1 ∨ k = 2 by omega) with c | c | c <;> rcases (show j = 0 ∨ j = 1 ∨ j = 2 by omega) with d | d | d <;> subst c <;> subst d
  · rfl
  · have := (u0 (by omega)).2; omega
  · have := (u0 (by omega)).2; have := (u1 (by omega)).2; omega
  · have := (u0 (by omega)).2; omega
  · rfl
  · have := (u1 (by omega)).2; omega
  · have := (u0 (by omega)).2; have := (u1 (by omega)).2; omega
  · have := (u1 (by omega)).2; omega
  · rfl
end BR

/-! class and reference: where their blocks and nodes are -/
def gSl (Rz s : Nat) : Nat := 4 * (s / Rz) + s % Rz
def aB (sta wd ht : Nat → Nat) (s q : Nat) : Nat := 2 * (sta s + q * (wd s * ht s))
def tB (Rz : Nat) (bd : Nat → Nat) (s q : Nat) : Nat := 17 * ((4 * gSl Rz s + q / bd s) * 3 + q % bd s)
def cB (sta wd ht : Nat → Nat) (s q e : Nat) : Nat := sta s + q * (wd s * ht s) + e
def mB (Rz : Nat) (wd ht : Nat → Nat) (s q e : Nat) : Nat := 144 * gSl Rz s + q * (wd s * ht s) + e
section PL
variable {sta pr bd wd ht : Nat → Nat} {n Rz : Nat}
theorem q_fit {N z q e : Nat} (hq : q < N) (he : e < z) : q * z + e < N * z := m_in hq he
theorem qe_inj {z q e q2 e2 : Nat} (he : e < z) (he2 : e2 < z) (h : q * z + e = q2 * z + e2) : q = q2 ∧ e = e2 := by
  have h1 := m_dm (y := q) he
  have h2 := m_dm (y := q2) he2
  rw [h] at h1
  exact ⟨h1.1.symm.trans h2.1, h1.2.symm.trans h2.2⟩
theorem cB_inj (h : shp sta pr bd wd ht n) {s q e s2 q2 e2 : Nat} (hs : s < n) (hq : q < pr s * bd s) (he : e < wd s * ht s) (hs2 : s2 < n) (hq2 : q2 < pr s2 * bd s2) (he2 : e2 < wd s2 * ht s2) (hh : cB sta wd ht s q e = cB sta wd ht s2 q2 e2) : s = s2 ∧ q = q2 ∧ e = e2 := by
  unfold cB at hh
  have a1 := q_fit hq he
  have a2 := q_fit hq2 he2
  have b1 := h.1 s hs
  have b2 := h.1 s2 hs2
  rcases Nat.lt_trichotomy s s2 with z | z | z
  · have := shp_le h s2 (s + 1) (by omega) (by omega); omega
  · subst z
    have := qe_inj (q := q) (q2 := q2) he he2 (by omega)
    exact ⟨rfl, this⟩
  · have := shp_le h s (s2 + 1) (by omega) (by omega); omega
theorem gSl_inj (hR : 1 ≤ Rz ∧ Rz ≤ 4) {s s2 : Nat} (h : gSl Rz s = gSl Rz s2) : s = s2 := by
  unfold gSl at h
  have h1 := Nat.mod_lt s (show 0 < Rz by omega)
  have h2 := Nat.mod_lt s2 (show 0 < Rz by omega)
  have e1 : s / Rz = s2 / Rz := by omega
  have e2 : s % Rz = s2 % Rz := by omega
  have := Nat.div_add_mod s Rz
  have := Nat.div_add_mod s2 Rz
  rw [e1, e2] at *
  omega
theorem sz_lim (h : shp sta pr bd wd ht n) {s : Nat} (hs : s < n) : wd s * ht s ≤ 12 ∧ 1 ≤ wd s * ht s ∧ pr s * bd s * (wd s * ht s) ≤ 144 := by
  have h2 := h.2 s hs
  have e1 : wd s * ht s ≤ 4 * 3 := Nat.mul_le_mul h2.2.2.1.2 h2.2.2.2.2
  have e2 : 1 * 1 ≤ wd s * ht s := Nat.mul_le_mul h2.2.2.1.1 h2.2.2.2.1
  have e3 : pr s * bd s * (wd s * ht s) ≤ 4 * 3 * (4 * 3) := Nat.mul_le_mul (Nat.mul_le_mul h2.1.2 h2.2.1.2) e1
  omega
theorem mB_inj (h : shp sta pr bd wd ht n) (hR : 1 ≤ Rz ∧ Rz ≤ 4) {s q e s2 q2 e2 : Nat} (hs : s < n) (hq : q < pr s * bd s) (he : e < wd s * ht s) (hs2 : s2 < n) (hq2 : q2 < pr s2 * bd s2) (he2 : e2 < wd s2 * ht s2) (hh : mB Rz wd ht s q e = mB Rz wd ht s2 q2 e2) : s = s2 ∧ q = q2 ∧ e = e2 := by
  unfold mB at hh
  have a1 := q_fit hq he
  have a2 := q_fit hq2 he2
  have b1 := (sz_lim h hs).2.2
  have b2 := (sz_lim h hs2).2.2
  have z := gSl_inj hR (show gSl Rz s = gSl Rz s2 by omega)
  subst z
  have := qe_inj (q := q) (q2 := q2) he he2 (by omega)
  exact ⟨rfl, this⟩
theorem aB_inj (h : shp sta pr bd wd ht n) {s q i s2 q2 i2 : Nat} (hs : s < n) (hq : q < pr s * bd s) (hi : i < 2 * (wd s * ht s)) (hs2 : s2 < n) (hq2 : q2 < pr s2 * bd s2) (hi2 : i2 < 2 * (wd s2 * ht s2)) (hh : aB sta wd ht s q + i = aB sta wd ht s2 q2 + i2) : s = s2 ∧ q = q2 ∧ i = i2 := by
  unfold aB at hh
  have a1 : q * (wd s * ht s) + wd s * ht s ≤ pr s * bd s * (wd s * ht s) := by
    have := Nat.mul_le_mul_right (wd s * ht s) (show q + 1 ≤ pr s * bd s by omega)
    rw [show (q + 1) * (wd s * ht s) = q * (wd s * ht s) + wd s * ht s from Nat.succ_mul _ _] at this
    exact this
  have a2 : q2 * (wd s2 * ht s2) + wd s2 * ht s2 ≤ pr s2 * bd s2 * (wd s2 * ht s2) := by
    have := Nat.mul_le_mul_right (wd s2 * ht s2) (show q2 + 1 ≤ pr s2 * bd s2 by omega)
    rw [show (q2 + 1) * (wd s2 * ht s2) = q2 * (wd s2 * ht s2) + wd s2 * ht s2 from Nat.succ_mul _ _] at this
    exact this
  have b1 := h.1 s hs
  have b2 := h.1 s2 hs2
  rcases Nat.lt_trichotomy s s2 with z | z | z
  · have := shp_le h s2 (s + 1) (by omega) (by omega); omega
  · subst z
    rcases Nat.lt_trichotomy q q2 with y | y | y
    · have := Nat.mul_le_mul_right (wd s * ht s) (show q + 1 ≤ q2 by omega)
      rw [show (q + 1) * (wd s * ht s) = q * (wd s * ht s) + wd s * ht s from Nat.succ_mul _ _] at this
      omega
    · subst y
      exact ⟨rfl, rfl, by omega⟩
    · have := Nat.mul_le_mul_right (wd s * ht s) (show q2 + 1 ≤ q by omega)
      rw [show (q2 + 1) * (wd s * ht s) = q2 * (wd s * ht s) + wd s * ht s from Nat.succ_mul _ _] at this
      omega
  · have := shp_le h s (s2 + 1) (by omega) (by omega); omega
theorem qb_lim (h : shp sta pr bd wd ht n) {s q : Nat} (hs : s < n) (hq : q < pr s * bd s) : q / bd s ≤ 3 ∧ q % bd s ≤ 2 ∧ bd s * (q / bd s) + q % bd s = q := by
  have h2 := h.2 s hs
  have e1 : q / bd s < pr s := Nat.div_lt_of_lt_mul (by rw [Nat.mul_comm]; exact hq)
  have e2 : q % bd s < bd s := Nat.mod_lt _ (by omega)
  exact ⟨by omega, by omega, Nat.div_add_mod q (bd s)⟩
theorem tB_inj (h : shp sta pr bd wd ht n) (hR : 1 ≤ Rz ∧ Rz ≤ 4) {s q i s2 q2 i2 : Nat} (hs : s < n) (hq : q < pr s * bd s) (hi : i < 17) (hs2 : s2 < n) (hq2 : q2 < pr s2 * bd s2) (hi2 : i2 < 17) (hh : tB Rz bd s q + i = tB Rz bd s2 q2 + i2) : s = s2 ∧ q = q2 ∧ i = i2 := by
  unfold tB at hh
  have a1 := qb_lim h hs hq
  have a2 := qb_lim h hs2 hq2
  have key : ∀ g1 g2 x1 x2 y1 y2 : Nat, x1 ≤ 3 → x2 ≤ 3 → y1 ≤ 2 → y2 ≤ 2 → 17 * ((4 * g1 + x1) * 3 + y1) + i = 17 * ((4 * g2 + x2) * 3 + y2) + i2 → g1 = g2 ∧ x1 = x2 ∧ y1 = y2 ∧ i = i2 := by intros; omega
  obtain ⟨k1, k2, k3, k4⟩ := key _ _ _ _ _ _ a1.1 a2.1 a1.2.1 a2.2.1 hh
  have z := gSl_inj hR k1
  subst z
  rw [k2, k3] at a1
  exact ⟨rfl, a1.2.2.symm.trans a2.2.2, k4⟩
theorem gSl_lt (hR : 1 ≤ Rz ∧ Rz ≤ 4) {C s : Nat} (hC : C ≤ 3) (hs : s < C * Rz) : gSl Rz s < 12 := by
  unfold gSl
  have h1 := Nat.mod_lt s (show 0 < Rz by omega)
  have h2 : s / Rz < C := Nat.div_lt_of_lt_mul (by rw [Nat.mul_comm]; exact hs)
  omega
theorem tB_lt (h : shp sta pr bd wd ht n) {s q : Nat} (hs : s < n) (hq : q < pr s * bd s) (hg : gSl Rz s < 12) : tB Rz bd s q + 17 ≤ 2448 := by
  unfold tB
  have a1 := qb_lim h hs hq
  omega
end PL
section TU
variable {sta pr bd wd ht V : Nat → Nat} {n Rz off : Nat} {lo lo2 jl jl2 : Nat → Nat} {dn dn2 jd jd2 : Nat → Bool}
/-- the nodes of all bands, of one kind of tree -/
def nR (sta pr bd wd ht V : Nat → Nat) (n Rz off : Nat) (lo : Nat → Nat) (dn : Nat → Bool) (jl : Nat → Nat) (jd : Nat → Bool) : Prop := ∀ s, s < n → ∀ q, q < pr s * bd s → ∀ e, e < wd s * ht s → ∀ l, l < m_lev (wd s) (ht s) + 1 → ndR lo dn jl jd (V (aB sta wd ht s q + r_node (wd s) (ht s) e l)) (aB sta wd ht s q + r_node (wd s) (ht s) e l) (tB Rz bd s q + off + r_node (wd s) (ht s) e l)
theorem tree_upd (h : shp sta pr bd wd ht n) (hR : 1 ≤ Rz ∧ Rz ≤ 4) {s q e : Nat} (hs : s < n) (hq : q < pr s * bd s) (he : e < wd s * ht s) (hold : nR sta pr bd wd ht V n Rz off lo dn jl jd)
    (hnew : ∀ l, l < m_lev (wd s) (ht s) + 1 → ndR lo2 dn2 jl2 jd2 (V (aB sta wd ht s q + r_node (wd s) (ht s) e l)) (aB sta wd ht s q + r_node (wd s) (ht s) e l) (tB Rz bd s q + off + r_node (wd s) (ht s) e l))
    (ho : ∀ j, (∀ l, l < m_lev (wd s) (ht s) + 1 → ¬ j = aB sta wd ht s q + r_node (wd s) (ht s) e l) → lo2 j = lo j ∧ dn2 j = dn j)
    (ho2 : ∀ j, (∀ l, l < m_lev (wd s) (ht s) + 1 → ¬ j = tB Rz bd s q + off + r_node (wd s) (ht s) e l) → jl2 j = jl j ∧ jd2 j = jd j) : nR sta pr bd wd ht V n Rz off lo2 dn2 jl2 jd2 := by
  intro t ht1 p hp k hk l hl
  have hsh := h.2 s hs
  have hsh2 := h.2 t ht1
  have r2 := r_node_2 (wd t) (by omega) (ht t) (by omega) k hk l hl
  have r17 := r_node_lt (wd t) (by omega) (ht t) (by omega) k hk l hl
  by_cases c : ∃ m, m < m_lev (wd s) (ht s) + 1 ∧ aB sta wd ht t p + r_node (wd t) (ht t) k l = aB sta wd ht s q + r_node (wd s) (ht s) e m
  · obtain ⟨m, hm, em⟩ := c
    have r22 := r_node_2 (wd s) (by omega) (ht s) (by omega) e he m hm
    obtain ⟨z1, z2, z3⟩ := aB_inj h ht1 hp r2 hs hq r22 em
    subst z1; subst z2
    rw [z3]
    exact hnew m hm
  · have n1 : ∀ m, m < m_lev (wd s) (ht s) + 1 → ¬ aB sta wd ht t p + r_node (wd t) (ht t) k l = aB sta wd ht s q + r_node (wd s) (ht s) e m := fun m hm z => c ⟨m, hm, z⟩
    have n2 : ∀ m, m < m_lev (wd s) (ht s) + 1 → ¬ tB Rz bd t p + off + r_node (wd t) (ht t) k l = tB Rz bd s q + off + r_node (wd s) (ht s) e m := fun m hm z => by
      have r172 := r_node_lt (wd s) (by omega) (ht s) (by omega) e he m hm
      obtain ⟨z1, z2, z3⟩ := tB_inj h hR ht1 hp r17 hs hq r172 (by omega)
      subst z1; subst z2
      exact n1 m hm (by rw [z3])
    obtain ⟨x1, x2⟩ := ho _ n1
    obtain ⟨x3, x4⟩ := ho2 _ n2
    obtain ⟨y1, y2, y3, y4⟩ := hold t ht1 p hp k hk l hl
    exact ⟨by rw [x1, x3]; exact y1, by rw [x2, x4]; exact y2, by rw [x1]; exact y3, by rw [x1, x2]; exact y4⟩
/-- the other kind of tree stays -/
theorem tree_oth (h : shp sta pr bd wd ht n) {off2 s q e : Nat} (hgs : ∀ s, s < n → gSl Rz s < 12) (hof : (off = 0 ∧ off2 = 2448) ∨ (off = 2448 ∧ off2 = 0)) (hs : s < n) (hq : q < pr s * bd s) (he : e < wd s * ht s) (hold : nR sta pr bd wd ht V n Rz off lo dn jl jd)
    (ho2 : ∀ j, (∀ l, l < m_lev (wd s) (ht s) + 1 → ¬ j = tB Rz bd s q + off2 + r_node (wd s) (ht s) e l) → jl2 j = jl j ∧ jd2 j = jd j) : nR sta pr bd wd ht V n Rz off lo dn jl2 jd2 := by
  intro t ht1 p hp k hk l hl
  have hsh := h.2 s hs
  have hsh2 := h.2 t ht1
  have r17 := r_node_lt (wd t) (by omega) (ht t) (by omega) k hk l hl
  have t1 := tB_lt (Rz := Rz) h ht1 hp (hgs t ht1)
  have t2 := tB_lt (Rz := Rz) h hs hq (hgs s hs)
  obtain ⟨x3, x4⟩ := ho2 (tB Rz bd t p + off + r_node (wd t) (ht t) k l) (fun m hm z => by
    have r172 := r_node_lt (wd s) (by omega) (ht s) (by omega) e he m hm
    omega)
  obtain ⟨y1, y2, y3, y4⟩ := hold t ht1 p hp k hk l hl
  exact ⟨by rw [x3]; exact y1, by rw [x4]; exact y2, y3, y4⟩
end TU

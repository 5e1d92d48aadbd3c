/-! both read the same: blocks -/
section RD9
variable {sta pr bd wd ht : Nat → Nat} {n Rz L : Nat}
/-- the nodes of one kind of trees, in both -/
def nQ (sta pr bd wd ht : Nat → Nat) (n Rz off : Nat) (lo : Nat → Nat) (dn : Nat → Bool) (jl : Nat → Nat) (jd : Nat → Bool) : Prop := ∀ s, s < n → ∀ q, q < pr s * bd s → ∀ e, e < wd s * ht s → ∀ l, l < m_lev (wd s) (ht s) + 1 → lo (aB sta wd ht s q + r_node (wd s) (ht s) e l) = jl (tB Rz bd s q + off + r_node (wd s) (ht s) e l) ∧ dn (aB sta wd ht s q + r_node (wd s) (ht s) e l) = jd (tB Rz bd s q + off + r_node (wd s) (ht s) e l)
def zB (sta pr bd wd ht : Nat → Nat) (n : Nat) (lo : Nat → Nat) : Prop := ∀ s, s < n → ∀ q, q < pr s * bd s → ∀ e, e < wd s * ht s → ∀ l, l < m_lev (wd s) (ht s) + 1 → lo (aB sta wd ht s q + r_node (wd s) (ht s) e l) ≤ 30
theorem tq_upd {off : Nat} {lo lo2 jl jl2 : Nat → Nat} {dn dn2 jd jd2 : Nat → Bool} (h : shp sta pr bd wd ht n) (hR : 1 ≤ Rz ∧ Rz ≤ 4) {s q e : Nat} (hs : s < n) (hq : q < pr s * bd s) (he : e < wd s * ht s) (hold : nQ sta pr bd wd ht n Rz off lo dn jl jd)
    (hnew : ∀ l, l < m_lev (wd s) (ht s) + 1 → lo2 (aB sta wd ht s q + r_node (wd s) (ht s) e l) = jl2 (tB Rz bd s q + off + r_node (wd s) (ht s) e l) ∧ dn2 (aB sta wd ht s q + r_node (wd s) (ht s) e l) = jd2 (tB Rz bd s q + off + r_node (wd s) (ht s) e l))
    (ho : ∀ j, (∀ l, l < m_lev (wd s) (ht s) + 1 → ¬ j = aB sta wd ht s q + r_node (wd s) (ht s) e l) → lo2 j = lo j ∧ dn2 j = dn j)
    (ho2 : ∀ j, (∀ l, l < m_lev (wd s) (ht s) + 1 → ¬ j = tB Rz bd s q + off + r_node (wd s) (ht s) e l) → jl2 j = jl j ∧ jd2 j = jd j) : nQ sta pr bd wd ht n Rz off lo2 dn2 jl2 jd2 := by
  intro t ht1 p hp k hk l hl
  have hsh := h.2 s hs
  have hsh2 := h.2 t ht1
  have r2 := r_node_2 (wd t) (by omega) (ht t) (by omega) k hk l hl
  have r17 := r_node_lt (wd t) (by omega) (ht t) (by omega) k hk l hl
  by_cases c : ∃ m, m < m_lev (wd s) (ht s) + 1 ∧ aB sta wd ht t p + r_node (wd t) (ht t) k l = aB sta wd ht s q + r_node (wd s) (ht s) e m
  · obtain ⟨m, hm, em⟩ := c
    have r22 := r_node_2 (wd s) (by omega) (ht s) (by omega) e he m hm
    obtain ⟨z1, z2, z3⟩ := aB_inj h ht1 hp r2 hs hq r22 em
    subst z1; subst z2
    rw [z3]
    exact hnew m hm
  · have n1 : ∀ m, m < m_lev (wd s) (ht s) + 1 → ¬ aB sta wd ht t p + r_node (wd t) (ht t) k l = aB sta wd ht s q + r_node (wd s) (ht s) e m := fun m hm z => c ⟨m, hm, z⟩
    have n2 : ∀ m, m < m_lev (wd s) (ht s) + 1 → ¬ tB Rz bd t p + off + r_node (wd t) (ht t) k l = tB Rz bd s q + off + r_node (wd s) (ht s) e m := fun m hm z => by
      have r172 := r_node_lt (wd s) (by omega) (ht s) (by omega) e he m hm
      obtain ⟨z1, z2, z3⟩ := tB_inj h hR ht1 hp r17 hs hq r172 (by omega)
      subst z1; subst z2
      exact n1 m hm (by rw [z3])
    obtain ⟨x1, x2⟩ := ho _ n1
    obtain ⟨x3, x4⟩ := ho2 _ n2
    obtain ⟨y1, y2⟩ := hold t ht1 p hp k hk l hl
    exact ⟨by rw [x1, x3]; exact y1, by rw [x2, x4]; exact y2⟩
theorem tq_oth {off off2 : Nat} {lo jl jl2 : Nat → Nat} {dn jd jd2 : Nat → Bool} (h : shp sta pr bd wd ht n) {s q e : Nat} (hgs : ∀ s, s < n → gSl Rz s < 12) (hof : (off = 0 ∧ off2 = 2448) ∨ (off = 2448 ∧ off2 = 0)) (hs : s < n) (hq : q < pr s * bd s) (he : e < wd s * ht s) (hold : nQ sta pr bd wd ht n Rz off lo dn jl jd)
    (ho2 : ∀ j, (∀ l, l < m_lev (wd s) (ht s) + 1 → ¬ j = tB Rz bd s q + off2 + r_node (wd s) (ht s) e l) → jl2 j = jl j ∧ jd2 j = jd j) : nQ sta pr bd wd ht n Rz off lo dn jl2 jd2 := by
  intro t ht1 p hp k hk l hl
  have hsh := h.2 s hs
  have hsh2 := h.2 t ht1
  have r17 := r_node_lt (wd t) (by omega) (ht t) (by omega) k hk l hl
  have t1 := tB_lt (Rz := Rz) h ht1 hp (hgs t ht1)
  have t2 := tB_lt (Rz := Rz) h hs hq (hgs s hs)
  obtain ⟨x3, x4⟩ := ho2 (tB Rz bd t p + off + r_node (wd t) (ht t) k l) (fun m hm z => by
    have r172 := r_node_lt (wd s) (by omega) (ht s) (by omega) e he m hm
    omega)
  obtain ⟨y1, y2⟩ := hold t ht1 p hp k hk l hl
  exact ⟨by rw [x3]; exact y1, by rw [x4]; exact y2⟩
theorem zB_upd {lo lo2 : Nat → Nat} {s q e : Nat} (hold : zB sta pr bd wd ht n lo) (hnew : ∀ l, l < m_lev (wd s) (ht s) + 1 → lo2 (aB sta wd ht s q + r_node (wd s) (ht s) e l) ≤ 30)
    (ho : ∀ j, (∀ l, l < m_lev (wd s) (ht s) + 1 → ¬ j = aB sta wd ht s q + r_node (wd s) (ht s) e l) → lo2 j = lo j) : zB sta pr bd wd ht n lo2 := by
  intro t ht1 p hp k hk l hl
  by_cases c : ∃ m, m < m_lev (wd s) (ht s) + 1 ∧ aB sta wd ht t p + r_node (wd t) (ht t) k l = aB sta wd ht s q + r_node (wd s) (ht s) e m
  · obtain ⟨m, hm, em⟩ := c
    rw [em]; exact hnew m hm
  · rw [ho _ (fun m hm z => c ⟨m, hm, z⟩)]
    exact hold t ht1 p hp k hk l hl
/-- what was read of one block, in both -/
def oneQ (sta pr bd wd ht : Nat → Nat) (Rz L : Nat) (Y : hS rT) (Z : kS) (s q e : Nat) : Prop :=
  (∀ y, y < L → Y.1 (cB sta wd ht s q e * L + y) = Z.2.2.2.2.2.1 (8 * mB Rz wd ht s q e + y) ∧ Y.2.1 (cB sta wd ht s q e * L + y) = Z.2.2.2.2.2.2.1 (8 * mB Rz wd ht s q e + y)) ∧ Y.2.2.1 (cB sta wd ht s q e) = Z.2.2.2.1 (mB Rz wd ht s q e) ∧ Y.2.2.2.1 (cB sta wd ht s q e) = Z.1 (mB Rz wd ht s q e) ∧ Y.2.2.2.2.1 (cB sta wd ht s q e) = (Z.2.2.2.2.1 (mB Rz wd ht s q e)).isSome ∧ (Y.2.2.2.2.1 (cB sta wd ht s q e) = false → Y.2.2.2.2.2.2.2.2.1 (aB sta wd ht s q + e) = false)
/-- all of it -/
def QR (sta pr bd wd ht : Nat → Nat) (n Rz L : Nat) (Y : hS rT) (Z : kS) : Prop := (∀ s, s < n → ∀ q, q < pr s * bd s → ∀ e, e < wd s * ht s → oneQ sta pr bd wd ht Rz L Y Z s q e) ∧ nQ sta pr bd wd ht n Rz 0 Y.2.2.2.2.2.1 Y.2.2.2.2.2.2.1 Z.2.1 Z.2.2.1 ∧ nQ sta pr bd wd ht n Rz 2448 Y.2.2.2.2.2.2.2.1 Y.2.2.2.2.2.2.2.2.1 Z.2.1 Z.2.2.1 ∧ zB sta pr bd wd ht n Y.2.2.2.2.2.2.2.1
/-- nothing of a block has moved but what is told of it -/
def mvQ (L c m y : Nat) (Y Y2 : hS rT) (Z Z2 : kS) : Prop :=
  (Y2.1 = Y.1 ∧ Z2.2.2.2.2.1 = Z.2.2.2.2.1 ∧ Z2.2.2.2.1 = Z.2.2.2.1 ∧ Z2.2.2.2.2.2.1 = Z.2.2.2.2.2.1 ∧ Z2.2.2.2.2.2.2.1 = Z.2.2.2.2.2.2.1) ∨
  (∃ k l z, 1 ≤ k ∧ Y2.1 = va_up Y.1 (c * L + y) k ∧ Z2.2.2.2.2.2.1 = va_up Z.2.2.2.2.2.1 (8 * m + y) k ∧ Z2.2.2.2.2.2.2.1 = va_up Z.2.2.2.2.2.2.1 (8 * m + y) l ∧ ((Z.2.2.2.2.1 m = none ∧ Z2.2.2.2.2.1 = va_up Z.2.2.2.2.1 m (some y) ∧ Z2.2.2.2.1 = va_up Z.2.2.2.1 m z) ∨ (¬ Z.2.2.2.2.1 m = none ∧ Z2.2.2.2.2.1 = Z.2.2.2.2.1 ∧ Z2.2.2.2.1 = Z.2.2.2.1)))
/-- the class's row of a block and the reference's, when both are put -/
theorem up_rel {α : Type} {A J : Nat → α} {v : α} {s q e t p x : Nat} (h : shp sta pr bd wd ht n) (hR : 1 ≤ Rz ∧ Rz ≤ 4) (hs : s < n) (hq : q < pr s * bd s) (he : e < wd s * ht s) (ht1 : t < n) (hp : p < pr t * bd t) (hx : x < wd t * ht t) (ho : A (cB sta wd ht t p x) = J (mB Rz wd ht t p x)) : va_up A (cB sta wd ht s q e) v (cB sta wd ht t p x) = va_up J (mB Rz wd ht s q e) v (mB Rz wd ht t p x) := by
  by_cases c : cB sta wd ht t p x = cB sta wd ht s q e
  · obtain ⟨z1, z2, z3⟩ := cB_inj h ht1 hp hx hs hq he c
    subst z1; subst z2; subst z3
    rw [va_up_self, va_up_self]
  · have c2 : ¬ mB Rz wd ht t p x = mB Rz wd ht s q e := fun z => by
      obtain ⟨z1, z2, z3⟩ := mB_inj h hR ht1 hp hx hs hq he z
      subst z1; subst z2; subst z3
      exact c rfl
    rw [va_up_ne _ _ c, va_up_ne _ _ c2]
    exact ho
theorem up_rel2 {A J : Nat → Nat} {v y y2 s q e t p x : Nat} (h : shp sta pr bd wd ht n) (hR : 1 ≤ Rz ∧ Rz ≤ 4) (hL : L ≤ 8) (hs : s < n) (hq : q < pr s * bd s) (he : e < wd s * ht s) (ht1 : t < n) (hp : p < pr t * bd t) (hx : x < wd t * ht t) (hy : y < L) (hy2 : y2 < L) (ho : A (cB sta wd ht t p x * L + y2) = J (8 * mB Rz wd ht t p x + y2)) : va_up A (cB sta wd ht s q e * L + y) v (cB sta wd ht t p x * L + y2) = va_up J (8 * mB Rz wd ht s q e + y) v (8 * mB Rz wd ht t p x + y2) := by
  by_cases c : cB sta wd ht t p x = cB sta wd ht s q e
  · obtain ⟨z1, z2, z3⟩ := cB_inj h ht1 hp hx hs hq he c
    subst z1; subst z2; subst z3
    by_cases cy : y2 = y
    · subst cy; rw [va_up_self, va_up_self]
    · rw [va_up_ne _ _ (by omega), va_up_ne _ _ (by omega)]; exact ho
  · have c2 : ¬ mB Rz wd ht t p x = mB Rz wd ht s q e := fun z => by
      obtain ⟨z1, z2, z3⟩ := mB_inj h hR ht1 hp hx hs hq he z
      subst z1; subst z2; subst z3
      exact c rfl
    rw [va_up_ne _ _ (fun w => c (q_divm w hy2 hy).1), va_up_ne _ _ (by omega)]
    exact ho
variable {f jf : Nat → Nat} {N : Nat} {jz jps jln V1 V2 : Nat → Nat}
/-! passes and length -/
set_option maxHeartbeats 4000000 in
theorem b2_rd (hf : ∀ j, j < N → f j = jf j) {s q e y : Nat} {Y : hS rT} {Z : kS} (h : shp sta pr bd wd ht n) (hR : 1 ≤ Rz ∧ Rz ≤ 4) (hL : L ≤ 8) (hs : s < n) (hq : q < pr s * bd s) (he : e < wd s * ht s) (hy : y < L) (hb : Br N Y.2.2.2.2.2.2.2.2.2 Z.2.2.2.2.2.2.2) (hH : Y.2.2.2.2.2.2.2.2.2.1 = 0 → QR sta pr bd wd ht n Rz L Y Z) :
    Br N (t_b2 (fpR f N) (flR f N) L y (cB sta wd ht s q e) Y).2.2.2.2.2.2.2.2.2 (r_b3 true jf jps jln N (8 * mB Rz wd ht s q e + y) (mB Rz wd ht s q e) Z).2.2.2.2.2.2.2 ∧ ((t_b2 (fpR f N) (flR f N) L y (cB sta wd ht s q e) Y).2.2.2.2.2.2.2.2.2.1 = 0 → Y.2.2.2.2.2.2.2.2.2.1 = 0 ∧ QR sta pr bd wd ht n Rz L (t_b2 (fpR f N) (flR f N) L y (cB sta wd ht s q e) Y) (r_b3 true jf jps jln N (8 * mB Rz wd ht s q e + y) (mB Rz wd ht s q e) Z) ∧ ∃ k l, 1 ≤ k ∧ (t_b2 (fpR f N) (flR f N) L y (cB sta wd ht s q e) Y).1 = va_up Y.1 (cB sta wd ht s q e * L + y) k ∧ (r_b3 true jf jps jln N (8 * mB Rz wd ht s q e + y) (mB Rz wd ht s q e) Z).2.2.2.2.2.1 = va_up Z.2.2.2.2.2.1 (8 * mB Rz wd ht s q e + y) k ∧ (r_b3 true jf jps jln N (8 * mB Rz wd ht s q e + y) (mB Rz wd ht s q e) Z).2.2.2.2.2.2.1 = va_up Z.2.2.2.2.2.2.1 (8 * mB Rz wd ht s q e + y) l ∧ (r_b3 true jf jps jln N (8 * mB Rz wd ht s q e + y) (mB Rz wd ht s q e) Z).2.2.2.2.1 = Z.2.2.2.2.1 ∧ (r_b3 true jf jps jln N (8 * mB Rz wd ht s q e + y) (mB Rz wd ht s q e) Z).2.2.2.1 = Z.2.2.2.1) := by
  obtain ⟨s3, e3⟩ : ∃ z, z = fpR f N (Y.1 (cB sta wd ht s q e * L + y)) Y.2.2.2.2.2.2.2.2.2 := ⟨_, rfl⟩
  obtain ⟨s4, e4⟩ : ∃ z, z = flR f N s3.1 (Y.2.1 (cB sta wd ht s q e * L + y)) Y.2.2.2.1 (cB sta wd ht s q e) s3.2 := ⟨_, rfl⟩
  obtain ⟨x, ex⟩ : ∃ q9, q9 = r_n true jf N (jps (8 * mB Rz wd ht s q e + y)) Z.2.2.2.2.2.2.2 := ⟨_, rfl⟩
  obtain ⟨x4, ex4⟩ : ∃ q9, q9 = r_ln true jf N (jln (8 * mB Rz wd ht s q e + y)) (mB Rz wd ht s q e) Z.1 x := ⟨_, rfl⟩
  have er : r_b3 true jf jps jln N (8 * mB Rz wd ht s q e + y) (mB Rz wd ht s q e) Z = (x4.2.1, Z.2.1, Z.2.2.1, Z.2.2.2.1, Z.2.2.2.2.1, va_up Z.2.2.2.2.2.1 (8 * mB Rz wd ht s q e + y) x.1, va_up Z.2.2.2.2.2.2.1 (8 * mB Rz wd ht s q e + y) x4.1, x4.2.2) := by
    unfold r_b3 r_b4
    rw [← ex, ← ex4]
    unfold r_w
    rw [if_pos rfl, if_pos rfl]
  rw [t_b2_eq (fp := fpR f N) (fl := flR f N) (X := Y) e3 e4, er]
  by_cases cf : Y.2.2.2.2.2.2.2.2.2.1 = 0
  · have hQ := hH cf
    obtain ⟨a1, a2, a3, a4⟩ := hQ
    have ex2 : x = fpM true jf N (jps (8 * mB Rz wd ht s q e + y)) Z.2.2.2.2.2.2.2 := by rw [ex]; unfold r_n; rw [if_pos (by rw [← hb.1]; exact cf)]
    have hp := rq_pass hf (d1 := false) (d2 := false) (e1 := decide (1 < jps (8 * mB Rz wd ht s q e + y))) (e2 := decide (2 < jps (8 * mB Rz wd ht s q e + y))) (f2 := fun _ => false) (f5 := fun _ => false) (f7 := fun _ => false) (g2 := m_dv (pA (jps (8 * mB Rz wd ht s q e + y)))) (g5 := m_dv (pB (jps (8 * mB Rz wd ht s q e + y)))) (g7 := m_dv (pC (jps (8 * mB Rz wd ht s q e + y)))) hb
    have hp1 : s3.1 = x.1 ∧ Br N s3.2 x.2 := by rw [e3, ex2]; exact hp
    have hpos : 1 ≤ s3.1 := by rw [e3]; exact pass_pos
    have hg := (a1 s hs q hq e he).2.2.1
    by_cases c3 : s3.2.1 = 0
    · have ex5 : x4 = flM true jf N x.1 (jln (8 * mB Rz wd ht s q e + y)) (mB Rz wd ht s q e) Z.1 x.2 := by rw [ex4]; unfold r_ln; rw [if_pos (by rw [← hp1.2.1]; exact c3)]
      have hl := rq_len hf (due := fun _ => false) (dn := fun _ => false) (due2 := fun w => decide (0 < jln (8 * mB Rz wd ht s q e + y) / 2 ^ w)) (dn2 := m_dv (nI (jln (8 * mB Rz wd ht s q e + y)))) (c := s3.1) (b := cB sta wd ht s q e) (b2 := mB Rz wd ht s q e) (gr := Y.2.2.2.1) (jgr := Z.1) c3 hp1.2 hg
      have hl2 : Br N s4.2.2 x4.2.2 ∧ (s4.2.2.1 = 0 → s4.1 = x4.1 ∧ ∃ k, s4.2.1 = va_up Y.2.2.2.1 (cB sta wd ht s q e) k ∧ x4.2.1 = va_up Z.1 (mB Rz wd ht s q e) k) := by
        rw [e4, ex5, ← hp1.1]; exact hl
      refine ⟨hl2.1, fun z => ?_⟩
      obtain ⟨l1, k, k1, k2⟩ := hl2.2 z
      refine ⟨cf, ⟨fun t ht1 p hp2 x9 hx9 => ?_, a2, a3, a4⟩, s3.1, x4.1, hpos, rfl, by rw [hp1.1], rfl, rfl, rfl⟩
      obtain ⟨o1, o2, o3, o4, o5⟩ := a1 t ht1 p hp2 x9 hx9
      refine ⟨fun y2 hy2 => ⟨?_, ?_⟩, o2, ?_, o4, o5⟩
      · show va_up Y.1 (cB sta wd ht s q e * L + y) s3.1 _ = va_up Z.2.2.2.2.2.1 (8 * mB Rz wd ht s q e + y) x.1 _
        rw [← hp1.1]
        exact up_rel2 h hR hL hs hq he ht1 hp2 hx9 hy hy2 (o1 y2 hy2).1
      · show va_up Y.2.1 (cB sta wd ht s q e * L + y) s4.1 _ = va_up Z.2.2.2.2.2.2.1 (8 * mB Rz wd ht s q e + y) x4.1 _
        rw [l1]
        exact up_rel2 h hR hL hs hq he ht1 hp2 hx9 hy hy2 (o1 y2 hy2).2
      · show s4.2.1 _ = x4.2.1 _
        rw [k1, k2]
        exact up_rel h hR hs hq he ht1 hp2 hx9 o3
    · have ex5 : x4 = (0, Z.1, x.2) := by rw [ex4]; unfold r_ln; rw [if_neg (by rw [← hp1.2.1]; exact c3)]
      have e9 : s4.2.2.1 = s3.2.1 := by rw [e4]; exact len_flt c3
      have c9 : ¬ s4.2.2.1 = 0 := by rw [e9]; exact c3
      refine ⟨⟨?_, fun z => absurd z c9⟩, fun z => absurd z c9⟩
      show s4.2.2.1 = x4.2.2.1
      rw [e9, ex5]; exact hp1.2.1
  · have e5 : s3.2 = Y.2.2.2.2.2.2.2.2.2 := by rw [e3]; exact pass_flt cf
    have e6 : x = (1, Z.2.2.2.2.2.2.2) := by rw [ex]; unfold r_n; rw [if_neg (by rw [← hb.1]; exact cf)]
    have e7 : x4 = (0, Z.1, Z.2.2.2.2.2.2.2) := by rw [ex4, e6]; unfold r_ln; exact if_neg (by rw [← hb.1]; exact cf)
    have e9 : s4.2.2.1 = Y.2.2.2.2.2.2.2.2.2.1 := by rw [e4, len_flt (by rw [e5]; exact cf), e5]
    have c9 : ¬ s4.2.2.1 = 0 := by rw [e9]; exact cf
    refine ⟨⟨?_, fun z => absurd z c9⟩, fun z => absurd z c9⟩
    show s4.2.2.1 = x4.2.2.1
    rw [e9, e7]; exact hb.1
end RD9

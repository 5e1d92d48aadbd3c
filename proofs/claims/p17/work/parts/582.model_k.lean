section BK
variable {sta pr bd wd ht V1 V2 tps tln tzs jps jln jz : Nat → Nat} {n Rz L : Nat}
/-- a block that has not begun: what is told of its first layer is not all of it -/
def LR (sta pr bd wd ht : Nat → Nat) (n : Nat) (bn dn1 : Nat → Bool) : Prop := ∀ s, s < n → ∀ q, q < pr s * bd s → ∀ e, e < wd s * ht s → bn (cB sta wd ht s q e) = false → dn1 (aB sta wd ht s q + e) = false
theorem leaf_ne {s q e : Nat} (h : shp sta pr bd wd ht n) (hs : s < n) (hq : q < pr s * bd s) (he : e < wd s * ht s) {t p k : Nat} (ht1 : t < n) (hp : p < pr t * bd t) (hk : k < wd t * ht t) (hne : ¬ cB sta wd ht t p k = cB sta wd ht s q e) : ∀ l, l < m_lev (wd s) (ht s) + 1 → ¬ aB sta wd ht t p + k = r_qq (aB sta wd ht s q) (wd s) (ht s) e l := by
  intro l hl z
  have h2 := h.2 s hs
  have lev := m_lev_le (wd s) (ht s)
  have r2 := r_node_2 (wd s) (by omega) (ht s) (by omega) e he l hl
  obtain ⟨z1, z2, z3⟩ := aB_inj h ht1 hp (by omega) hs hq r2 z
  subst z1; subst z2
  rcases (show l = 0 ∨ l = 1 ∨ l = 2 by omega) with c | c | c <;> subst c
  · rw [r_node_0 h2.2.2.1.1] at z3
    exact hne (by rw [z3])
  · have := (nd_10 (wd t) (by omega) (ht t) (by omega) e he (by omega)).1; omega
  · have := (nd_21 (wd t) (by omega) (ht t) (by omega) e he (by omega)).1; omega
theorem vl_le0 {V : Nat → Nat} {zr : Bool} {s q e : Nat} (he : e < wd s * ht s) (v : vR V zr jz jps sta wd ht Rz L s q) : ∀ k, k < m_lev (wd s) (ht s) + 1 → r_vl false zr jz jps L (144 * gSl Rz s + q * (wd s * ht s)) (wd s) (ht s) e k ≤ r_vl false zr jz jps L (144 * gSl Rz s + q * (wd s * ht s)) (wd s) (ht s) e 0 := by
  intro k
  induction k with
  | zero => intro _; exact Nat.le_refl _
  | succ k ih => intro hk; exact Nat.le_trans ((v e he).2.1 k hk) (ih (by omega))
/-- one tree's way to a block, told by both -/
theorem way_rel {ms : Bool} {f : Nat → Nat} {z s q e en en2 off : Nat} {V : Nat → Nat} {zr : Bool} {lo jl : Nat → Nat} {dn jd : Nat → Bool} {u : wS} {m : mS} (h : shp sta pr bd wd ht n) (hR : 1 ≤ Rz ∧ Rz ≤ 4) (hs : s < n) (hq : q < pr s * bd s) (he : e < wd s * ht s)
    (v : vR V zr jz jps sta wd ht Rz L s q) (hn : nR sta pr bd wd ht V n Rz off lo dn jl jd) (hen : en = en2 ∨ (r_own zr jz jps L (144 * gSl Rz s + q * (wd s * ht s)) e < en ∧ r_own zr jz jps L (144 * gSl Rz s + q * (wd s * ht s)) e < en2)) (hb : Bs ms u m) {T R : tX wS} {R2 : tX mS}
    (eT : T = t_rows (bitW ms) V en (r_qq (aB sta wd ht s q) (wd s) (ht s) e) (m_lev (wd s) (ht s) + 1) (0, lo, dn, u)) (eR : R2 = r_rows (bitM false f z) false (r_vl false zr jz jps L (144 * gSl Rz s + q * (wd s * ht s)) (wd s) (ht s) e) (r_qq (tB Rz bd s q + off) (wd s) (ht s) e) en2 (m_lev (wd s) (ht s) + 1) (0, jl, jd, m)) :
    nR sta pr bd wd ht V n Rz off T.2.1 T.2.2.1 R2.2.1 R2.2.2.1 ∧ Bs ms T.2.2.2 R2.2.2.2 ∧ T.2.2.1 (aB sta wd ht s q + e) = R2.2.2.1 (tB Rz bd s q + off + e) ∧
    (r_own zr jz jps L (144 * gSl Rz s + q * (wd s * ht s)) e < en → T.2.2.1 (aB sta wd ht s q + e) = true ∧ T.1 = r_own zr jz jps L (144 * gSl Rz s + q * (wd s * ht s)) e) ∧ (en ≤ r_own zr jz jps L (144 * gSl Rz s + q * (wd s * ht s)) e → T.2.2.1 (aB sta wd ht s q + e) = dn (aB sta wd ht s q + e)) ∧
    (∀ j, (∀ l, l < m_lev (wd s) (ht s) + 1 → ¬ j = r_qq (aB sta wd ht s q) (wd s) (ht s) e l) → T.2.2.1 j = dn j) ∧ (∀ j, (∀ l, l < m_lev (wd s) (ht s) + 1 → ¬ j = tB Rz bd s q + off + r_node (wd s) (ht s) e l) → R2.2.1 j = jl j ∧ R2.2.2.1 j = jd j) := by
  have h2 := h.2 s hs
  have e0 := (v e he).2.2
  have hl0 := vl_le0 he v
  have q0 : r_qq (aB sta wd ht s q) (wd s) (ht s) e 0 = aB sta wd ht s q + e := by unfold r_qq; rw [r_node_0 h2.2.2.1.1]
  have q1 : r_qq (tB Rz bd s q + off) (wd s) (ht s) e 0 = tB Rz bd s q + off + e := by unfold r_qq; rw [r_node_0 h2.2.2.1.1]
  have hr := rows_rel (ms := ms) (f := f) (n := z) (en := en) (en2 := en2) (vs := V) (vl := r_vl false zr jz jps L (144 * gSl Rz s + q * (wd s * ht s)) (wd s) (ht s) e) (q := r_qq (aB sta wd ht s q) (wd s) (ht s) e) (qr := r_qq (tB Rz bd s q + off) (wd s) (ht s) e) (m_lev (wd s) (ht s) + 1) 0 lo jl dn jd u m (nd_inj h hs he) (nd_inj h hs he)
    (fun k hk => by have q9 := hn s hs q hq e he k hk; rw [(v e he).1 k hk] at q9; exact q9) (fun k hk => (v e he).1 k hk) (v e he).2.1 (fun _ => Nat.zero_le _)
    (by
      rcases hen with q9 | q9
      · exact Or.inl q9
      · refine Or.inr (fun k hk => ?_)
        have := hl0 k hk
        rw [e0] at this
        omega) hb
  rw [← eT, ← eR, q0, e0] at hr
  obtain ⟨r1, r2, r3, r4, r5, r6⟩ := hr
  have r50 := r5 (by omega)
  refine ⟨?_, r6, ?_, r50.1, r50.2, fun j hj => (r3 j hj).2, fun j hj => r4 j hj⟩
  · refine tree_upd h hR hs hq he hn (fun l hl => ?_) (fun j hj => r3 j hj) (fun j hj => r4 j hj)
    have q9 := r2 l hl
    rw [← (v e he).1 l hl] at q9
    exact q9
  · have q9 := (r2 0 (by omega)).2.1
    rw [q0, q1] at q9
    exact q9
set_option maxHeartbeats 8000000 in
theorem blk_rel {ms : Bool} {f : Nat → Nat} {z s q e y : Nat} {Y : hS wT} {Z : kS} (h : shp sta pr bd wd ht n) (hR : 1 ≤ Rz ∧ Rz ≤ 4) (hgs : ∀ s, s < n → gSl Rz s < 12) (hs : s < n) (hq : q < pr s * bd s) (he : e < wd s * ht s) (hy : y < L)
    (t1 : ∀ y, y < L → tps (cB sta wd ht s q e * L + y) = jps (8 * mB Rz wd ht s q e + y)) (t2 : ∀ y, y < L → tln (cB sta wd ht s q e * L + y) = jln (8 * mB Rz wd ht s q e + y)) (t3 : tzs (cB sta wd ht s q e) = jz (mB Rz wd ht s q e)) (p2 : ∀ j, tps j ≤ 164) (p3 : ∀ j, tln j < 2 ^ 16) (p4 : ∀ j, jz j ≤ 30)
    (v1 : vR V1 false jz jps sta wd ht Rz L s q) (v2 : vR V2 true jz jps sta wd ht Rz L s q) (hH : HR sta pr bd wd ht V1 V2 tps tln tzs n Rz Y Z) (hb : Bs ms Y.2.2.2.2.2.2.2.2.2 Z.2.2.2.2.2.2.2) (hbn : Y.2.2.2.2.1 (cB sta wd ht s q e) = decide (m_first tps (cB sta wd ht s q e) L < y)) (hl : LR sta pr bd wd ht n Y.2.2.2.2.1 Y.2.2.2.2.2.2.1)
    {Y2 : hS wT} {Z2 : kS} (eY : Y2 = t_blk (bitW ms) (fpW ms) (flW ms) V1 V2 (r_qq (aB sta wd ht s q) (wd s) (ht s) e) (m_lev (wd s) (ht s) + 1) L y (cB sta wd ht s q e) (aB sta wd ht s q + e) Y) (eZ : Z2 = r_blk false f jz jps jln z L (144 * gSl Rz s + q * (wd s * ht s)) (wd s) (ht s) (tB Rz bd s q) e y Z) :
    HR sta pr bd wd ht V1 V2 tps tln tzs n Rz Y2 Z2 ∧ Bs ms Y2.2.2.2.2.2.2.2.2.2 Z2.2.2.2.2.2.2.2 ∧ Y2.2.2.2.2.1 (cB sta wd ht s q e) = decide (m_first tps (cB sta wd ht s q e) L < y + 1) ∧ (∀ b, ¬ b = cB sta wd ht s q e → Y2.2.2.2.2.1 b = Y.2.2.2.2.1 b) ∧ LR sta pr bd wd ht n Y2.2.2.2.2.1 Y2.2.2.2.2.2.2.1 := by
  have em : 144 * gSl Rz s + q * (wd s * ht s) + e = mB Rz wd ht s q e := rfl
  have hfirst := m_first_eq t1
  obtain ⟨⟨a1, a2, a3⟩, a4, a5, a6⟩ := hH
  have hs0 : Z.2.2.2.2.2.2.2.1 = 0 := hb.2.1
  have own1 : r_own false jz jps L (144 * gSl Rz s + q * (wd s * ht s)) e = m_first tps (cB sta wd ht s q e) L := by
    unfold r_own; rw [if_neg (by decide), em, hfirst]
  have own2 : r_own true jz jps L (144 * gSl Rz s + q * (wd s * ht s)) e = tzs (cB sta wd ht s q e) := by
    unfold r_own; rw [if_pos rfl, em, t3]
  have hhad : r_had false Z.2.2.2.2.1 jps (mB Rz wd ht s q e) y L = decide (m_first tps (cB sta wd ht s q e) L < y) := by
    unfold r_had; rw [if_neg (by decide), hfirst]
  by_cases c : m_first tps (cB sta wd ht s q e) L < y
  · rw [decide_eq_true c] at hbn hhad
    have c9 : decide (m_first tps (cB sta wd ht s q e) L < y + 1) = true := decide_eq_true (by omega)
    have hbb := Bs_bit hb (decide (0 < tps (cB sta wd ht s q e * L + y)))
    have eT : Y2 = if decide (0 < tps (cB sta wd ht s q e * L + y)) = false then h_s (bitW ms Y.2.2.2.2.2.2.2.2.2 (decide (0 < tps (cB sta wd ht s q e * L + y)))).2 Y else t_b2 (fpW ms) (flW ms) L y (cB sta wd ht s q e) (h_s (bitW ms Y.2.2.2.2.2.2.2.2.2 (decide (0 < tps (cB sta wd ht s q e * L + y)))).2 Y) := by
      rw [eY, ← a1]; unfold t_blk; rw [if_pos hbn]; rfl
    have eR : Z2 = if decide (0 < tps (cB sta wd ht s q e * L + y)) = true ∧ (r_put Z.2.2.2.2.2.2.2 (decide (0 < tps (cB sta wd ht s q e * L + y)))).1 = 0 then r_b3 false f jps jln z (8 * mB Rz wd ht s q e + y) (mB Rz wd ht s q e) (r_s (r_put Z.2.2.2.2.2.2.2 (decide (0 < tps (cB sta wd ht s q e * L + y)))) Z) else r_s (r_put Z.2.2.2.2.2.2.2 (decide (0 < tps (cB sta wd ht s q e * L + y)))) Z := by
      rw [eZ, t1 y hy]; unfold r_blk; rw [em, if_pos hhad, bitM_W]
    by_cases c2 : 0 < tps (cB sta wd ht s q e * L + y)
    · rw [if_neg (show ¬ decide (0 < tps (cB sta wd ht s q e * L + y)) = false by rw [decide_eq_true c2]; decide)] at eT
      rw [if_pos ⟨decide_eq_true c2, by rw [r_put_fl]; exact hs0⟩] at eR
      have hh := b2_rel (ms := ms) (f := f) (z := z) (V1 := V1) (V2 := V2) (tzs := tzs) (Y := h_s (bitW ms Y.2.2.2.2.2.2.2.2.2 (decide (0 < tps (cB sta wd ht s q e * L + y)))).2 Y) (Z := r_s (r_put Z.2.2.2.2.2.2.2 (decide (0 < tps (cB sta wd ht s q e * L + y)))) Z) h hR hs hq he (t1 y hy) (t2 y hy) c2 (p2 _) (p3 _) ⟨⟨a1, a2, a3⟩, a4, a5, a6⟩ hbb
      rw [← eT, ← eR] at hh
      obtain ⟨x1, x2, x3, x4⟩ := hh
      have x3 : Y2.2.2.2.2.1 = Y.2.2.2.2.1 := x3
      have x4 : Y2.2.2.2.2.2.2.1 = Y.2.2.2.2.2.2.1 := x4
      exact ⟨x1, x2, by rw [x3, hbn, c9], fun b _ => by rw [x3], by rw [x3, x4]; exact hl⟩
    · rw [if_pos (decide_eq_false c2)] at eT
      rw [if_neg (fun q9 => c2 (of_decide_eq_true q9.1))] at eR
      rw [eT, eR]
      exact ⟨⟨⟨a1, a2, a3⟩, a4, a5, a6⟩, hbb, by show Y.2.2.2.2.1 _ = _; rw [hbn, c9], fun b _ => rfl, hl⟩
  · rw [decide_eq_false c] at hbn hhad
    obtain ⟨T, eT⟩ : ∃ x, x = t_rows (bitW ms) V1 (y + 1) (r_qq (aB sta wd ht s q) (wd s) (ht s) e) (m_lev (wd s) (ht s) + 1) (0, Y.2.2.2.2.2.1, Y.2.2.2.2.2.2.1, Y.2.2.2.2.2.2.2.2.2) := ⟨_, rfl⟩
    obtain ⟨R, eR⟩ : ∃ x, x = r_rows (bitM false f z) false (r_vl false false jz jps L (144 * gSl Rz s + q * (wd s * ht s)) (wd s) (ht s) e) (r_qq (tB Rz bd s q + 0) (wd s) (ht s) e) (y + 1) (m_lev (wd s) (ht s) + 1) (0, Z.2.1, Z.2.2.1, Z.2.2.2.2.2.2.2) := ⟨_, rfl⟩
    have w1 := way_rel (T := T) (R := T) (R2 := R) h hR hs hq he v1 a5 (Or.inl rfl) hb eT eR
    rw [own1] at w1
    obtain ⟨w2, w3, w4, w5, w6, w7, w8⟩ := w1
    have lr : ∀ t, t < n → ∀ p, p < pr t * bd t → ∀ k, k < wd t * ht t → ¬ cB sta wd ht t p k = cB sta wd ht s q e → Y.2.2.2.2.1 (cB sta wd ht t p k) = false → T.2.2.1 (aB sta wd ht t p + k) = false := by
      intro t ht1 p hp k hk hne hf
      rw [w7 _ (leaf_ne h hs hq he ht1 hp hk hne)]
      exact hl t ht1 p hp k hk hf
    have hT : Y2 = if T.2.2.1 (aB sta wd ht s q + e) = false then (Y.1, Y.2.1, Y.2.2.1, Y.2.2.2.1, Y.2.2.2.2.1, T.2.1, T.2.2.1, Y.2.2.2.2.2.2.2.1, Y.2.2.2.2.2.2.2.2.1, T.2.2.2) else t_b2 (fpW ms) (flW ms) L y (cB sta wd ht s q e) (Y.1, Y.2.1, va_up Y.2.2.1 (cB sta wd ht s q e) (t_rows (bitW ms) V2 31 (r_qq (aB sta wd ht s q) (wd s) (ht s) e) (m_lev (wd s) (ht s) + 1) (0, Y.2.2.2.2.2.2.2.1, Y.2.2.2.2.2.2.2.2.1, T.2.2.2)).1, Y.2.2.2.1, va_up Y.2.2.2.2.1 (cB sta wd ht s q e) true, T.2.1, T.2.2.1, (t_rows (bitW ms) V2 31 (r_qq (aB sta wd ht s q) (wd s) (ht s) e) (m_lev (wd s) (ht s) + 1) (0, Y.2.2.2.2.2.2.2.1, Y.2.2.2.2.2.2.2.2.1, T.2.2.2)).2.1, (t_rows (bitW ms) V2 31 (r_qq (aB sta wd ht s q) (wd s) (ht s) e) (m_lev (wd s) (ht s) + 1) (0, Y.2.2.2.2.2.2.2.1, Y.2.2.2.2.2.2.2.2.1, T.2.2.2)).2.2.1, t_z (t_rows (bitW ms) V2 31 (r_qq (aB sta wd ht s q) (wd s) (ht s) e) (m_lev (wd s) (ht s) + 1) (0, Y.2.2.2.2.2.2.2.1, Y.2.2.2.2.2.2.2.2.1, T.2.2.2)) (aB sta wd ht s q + e)) := by
      rw [eY]; unfold t_blk; rw [if_neg (show ¬ Y.2.2.2.2.1 (cB sta wd ht s q e) = true by rw [hbn]; decide), ← eT]
    have hZ : Z2 = if R.2.2.1 (tB Rz bd s q + e) = true ∧ R.2.2.2.1 = 0 then r_b3 false f jps jln z (8 * mB Rz wd ht s q e + y) (mB Rz wd ht s q e) (r_b2 false (mB Rz wd ht s q e) y (r_T true false f jz jps z L (144 * gSl Rz s + q * (wd s * ht s)) (wd s) (ht s) (tB Rz bd s q + 2448) e 1000 R.2.1 R.2.2.1 R.2.2.2) Z) else r_t R Z := by
      have eR2 : R = r_T false false f jz jps z L (144 * gSl Rz s + q * (wd s * ht s)) (wd s) (ht s) (tB Rz bd s q) e (y + 1) Z.2.1 Z.2.2.1 Z.2.2.2.2.2.2.2 := eR
      rw [eZ]; unfold r_blk; rw [em, if_neg (show ¬ r_had false Z.2.2.2.2.1 jps (mB Rz wd ht s q e) y L = true by rw [hhad]; decide), ← eR2]
    by_cases c3 : m_first tps (cB sta wd ht s q e) L < y + 1
    · have c4 : m_first tps (cB sta wd ht s q e) L = y := by omega
      have d1 := (w5 c3).1
      have d2 : R.2.2.1 (tB Rz bd s q + e) = true := by rw [← d1, w4]; rfl
      obtain ⟨T9, eT9⟩ : ∃ x, x = t_rows (bitW ms) V2 31 (r_qq (aB sta wd ht s q) (wd s) (ht s) e) (m_lev (wd s) (ht s) + 1) (0, Y.2.2.2.2.2.2.2.1, Y.2.2.2.2.2.2.2.2.1, T.2.2.2) := ⟨_, rfl⟩
      obtain ⟨R9, eR9⟩ : ∃ x, x = r_T true false f jz jps z L (144 * gSl Rz s + q * (wd s * ht s)) (wd s) (ht s) (tB Rz bd s q + 2448) e 1000 R.2.1 R.2.2.1 R.2.2.2 := ⟨_, rfl⟩
      have b6 : nR sta pr bd wd ht V2 n Rz 2448 Y.2.2.2.2.2.2.2.1 Y.2.2.2.2.2.2.2.2.1 R.2.1 R.2.2.1 := tree_oth h hgs (Or.inr ⟨rfl, rfl⟩) hs hq he a6 w8
      have hz30 : tzs (cB sta wd ht s q e) ≤ 30 := by rw [t3]; exact p4 _
      have y1 := way_rel (T := T9) (R := T9) (R2 := R9) (en := 31) (en2 := 1000) h hR hs hq he v2 b6 (Or.inr (by rw [own2]; omega)) w3 eT9 eR9
      rw [own2] at y1
      obtain ⟨y2, y3, y4, y5, y6, y7, y8⟩ := y1
      have d9 := y5 (by omega)
      have b5 : nR sta pr bd wd ht V1 n Rz 0 T.2.1 T.2.2.1 R9.2.1 R9.2.2.1 := tree_oth h hgs (Or.inl ⟨rfl, rfl⟩) hs hq he w2 y8
      rw [if_neg (show ¬ T.2.2.1 (aB sta wd ht s q + e) = false by rw [d1]; decide), ← eT9] at hT
      rw [if_pos ⟨d2, w3.2.1⟩, ← eR9] at hZ
      have ez : t_z T9 (aB sta wd ht s q + e) = T9.2.2.2 := by unfold t_z; rw [if_pos d9.1]
      rw [ez, d9.2, a3, va_up_id] at hT
      have hp1 : 0 < tps (cB sta wd ht s q e * L + y) := m_first_pos c4 hy
      have hh := b2_rel (ms := ms) (f := f) (z := z) (V1 := V1) (V2 := V2) (tzs := tzs) (Y := (Y.1, Y.2.1, tzs, Y.2.2.2.1, va_up Y.2.2.2.2.1 (cB sta wd ht s q e) true, T.2.1, T.2.2.1, T9.2.1, T9.2.2.1, T9.2.2.2)) (Z := r_b2 false (mB Rz wd ht s q e) y R9 Z) h hR hs hq he (t1 y hy) (t2 y hy) hp1 (p2 _) (p3 _) ⟨⟨a1, a2, rfl⟩, a4, b5, y2⟩ y3
      rw [← hT, ← hZ] at hh
      obtain ⟨x1, x2, x3, x4⟩ := hh
      have x3 : Y2.2.2.2.2.1 = va_up Y.2.2.2.2.1 (cB sta wd ht s q e) true := x3
      have x4 : Y2.2.2.2.2.2.2.1 = T.2.2.1 := x4
      refine ⟨x1, x2, by rw [x3, va_up_self, decide_eq_true c3], fun b hb9 => by rw [x3, va_up_ne _ _ hb9], ?_⟩
      rw [x3, x4]
      intro t ht1 p hp k hk hf
      by_cases c5 : cB sta wd ht t p k = cB sta wd ht s q e
      · rw [c5, va_up_self] at hf; exact Bool.noConfusion hf
      · rw [va_up_ne _ _ c5] at hf
        exact lr t ht1 p hp k hk c5 hf
    · have d1 : T.2.2.1 (aB sta wd ht s q + e) = false := by rw [w6 (by omega)]; exact hl s hs q hq e he hbn
      have d2 : ¬ R.2.2.1 (tB Rz bd s q + e) = true := by
        have w4 : T.2.2.1 (aB sta wd ht s q + e) = R.2.2.1 (tB Rz bd s q + e) := w4
        rw [← w4, d1]; decide
      rw [if_pos d1] at hT
      rw [if_neg (fun q9 => d2 q9.1)] at hZ
      have b6 : nR sta pr bd wd ht V2 n Rz 2448 Y.2.2.2.2.2.2.2.1 Y.2.2.2.2.2.2.2.2.1 R.2.1 R.2.2.1 := tree_oth h hgs (Or.inr ⟨rfl, rfl⟩) hs hq he a6 w8
      rw [hT, hZ]
      refine ⟨⟨⟨a1, a2, a3⟩, a4, w2, b6⟩, w3, by show Y.2.2.2.2.1 _ = _; rw [hbn, decide_eq_false c3], fun b _ => rfl, ?_⟩
      intro t ht1 p hp k hk hf
      by_cases c5 : cB sta wd ht t p k = cB sta wd ht s q e
      · obtain ⟨z1, z2, z3⟩ := cB_inj h ht1 hp hk hs hq he c5
        subst z1; subst z2; subst z3
        exact d1
      · exact lr t ht1 p hp k hk c5 hf
end BK

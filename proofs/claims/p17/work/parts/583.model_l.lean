/-! a packet, and all packets, written by both -/
section PK
variable {sta pr bd wd ht V1 V2 tps tln tzs jps jln jz : Nat → Nat} {n Rz L : Nat}
/-- what was told, in both -/
def tR (sta pr bd wd ht tps tln tzs jps jln jz : Nat → Nat) (n Rz L : Nat) : Prop := ∀ s, s < n → ∀ q, q < pr s * bd s → ∀ e, e < wd s * ht s → (∀ y, y < L → tps (cB sta wd ht s q e * L + y) = jps (8 * mB Rz wd ht s q e + y)) ∧ (∀ y, y < L → tln (cB sta wd ht s q e * L + y) = jln (8 * mB Rz wd ht s q e + y)) ∧ tzs (cB sta wd ht s q e) = jz (mB Rz wd ht s q e)
/-- the block j of the packet p of the slot s -/
theorem blk_j (h : shp sta pr bd wd ht n) {s p j : Nat} (hs : s < n) (hp : p < pr s) (hj : j < bd s * (wd s * ht s)) : p * bd s + j / (wd s * ht s) < pr s * bd s ∧ j % (wd s * ht s) < wd s * ht s ∧ cB sta wd ht s (p * bd s + j / (wd s * ht s)) (j % (wd s * ht s)) = sta s + p * bd s * (wd s * ht s) + j ∧ mB Rz wd ht s (p * bd s + j / (wd s * ht s)) (j % (wd s * ht s)) = 144 * gSl Rz s + p * bd s * (wd s * ht s) + j ∧ (p * bd s + j / (wd s * ht s)) / bd s = p ∧ (p * bd s + j / (wd s * ht s)) % bd s = j / (wd s * ht s) := by
  have hz := sz_lim h hs
  have h1 : j / (wd s * ht s) < bd s := Nat.div_lt_of_lt_mul (by rw [Nat.mul_comm]; exact hj)
  have h2 := Nat.mod_lt j (show 0 < wd s * ht s by omega)
  have h3 : j / (wd s * ht s) * (wd s * ht s) + j % (wd s * ht s) = j := Nat.div_add_mod' j _
  have h4 := m_dm (y := p) h1
  refine ⟨m_in hp h1, h2, ?_, ?_, h4.1, h4.2⟩
  · unfold cB
    rw [Nat.add_mul]
    omega
  · unfold mB
    rw [Nat.add_mul]
    omega
theorem st_C {ms : Bool} {s p y j : Nat} {Y : hS wT} : t_st (bitW ms) (fpW ms) (flW ms) V1 V2 L y (sta s + p * bd s * (wd s * ht s)) (wd s * ht s) (wd s) (ht s) j Y = t_blk (bitW ms) (fpW ms) (flW ms) V1 V2 (r_qq (aB sta wd ht s (p * bd s + j / (wd s * ht s))) (wd s) (ht s) (j % (wd s * ht s))) (m_lev (wd s) (ht s) + 1) L y (sta s + p * bd s * (wd s * ht s) + j) (aB sta wd ht s (p * bd s + j / (wd s * ht s)) + j % (wd s * ht s)) Y := by
  have e1 : aB sta wd ht s (p * bd s + j / (wd s * ht s)) = 2 * (sta s + p * bd s * (wd s * ht s) + j / (wd s * ht s) * (wd s * ht s)) := by
    unfold aB
    rw [Nat.add_mul, ← Nat.add_assoc]
  rw [e1]
  rfl
theorem st_M (h : shp sta pr bd wd ht n) {f : Nat → Nat} {z s p y j : Nat} {Z : kS} (hs : s < n) (hp : p < pr s) (hj : j < bd s * (wd s * ht s)) (hbg : bd s = m_bnd (gSl Rz s)) : r_st false f jz jps jln z L (wd s) (ht s) (r_fr (wd s) (ht s) (gSl Rz s) p) (gSl Rz s) p y j Z = r_blk false f jz jps jln z L (144 * gSl Rz s + (p * bd s + j / (wd s * ht s)) * (wd s * ht s)) (wd s) (ht s) (tB Rz bd s (p * bd s + j / (wd s * ht s))) (j % (wd s * ht s)) y Z := by
  obtain ⟨-, -, -, -, h5, h6⟩ := blk_j (Rz := Rz) h hs hp hj
  unfold r_st r_fr tB
  rw [h5, h6, ← hbg, Nat.add_mul (p * bd s), ← Nat.add_assoc]
set_option maxHeartbeats 4000000 in
theorem go_rel {ms : Bool} {f : Nat → Nat} {z s p y : Nat} (h : shp sta pr bd wd ht n) (hR : 1 ≤ Rz ∧ Rz ≤ 4) (hgs : ∀ s, s < n → gSl Rz s < 12) (hs : s < n) (hp : p < pr s) (hy : y < L) (hbg : bd s = m_bnd (gSl Rz s)) (hT : tR sta pr bd wd ht tps tln tzs jps jln jz n Rz L) (p2 : ∀ j, tps j ≤ 164) (p3 : ∀ j, tln j < 2 ^ 16) (p4 : ∀ j, jz j ≤ 30)
    (v1 : ∀ s, s < n → ∀ q, q < pr s * bd s → vR V1 false jz jps sta wd ht Rz L s q) (v2 : ∀ s, s < n → ∀ q, q < pr s * bd s → vR V2 true jz jps sta wd ht Rz L s q) : ∀ (m j : Nat) (Y : hS wT) (Z : kS), j + m = bd s * (wd s * ht s) → HR sta pr bd wd ht V1 V2 tps tln tzs n Rz Y Z → Bs ms Y.2.2.2.2.2.2.2.2.2 Z.2.2.2.2.2.2.2 → LR sta pr bd wd ht n Y.2.2.2.2.1 Y.2.2.2.2.2.2.1 → (∀ i, j ≤ i → i < bd s * (wd s * ht s) → Y.2.2.2.2.1 (sta s + p * bd s * (wd s * ht s) + i) = decide (m_first tps (sta s + p * bd s * (wd s * ht s) + i) L < y)) →
    ∀ (Y2 : hS wT) (Z2 : kS), Y2 = t_go (t_st (bitW ms) (fpW ms) (flW ms) V1 V2 L y (sta s + p * bd s * (wd s * ht s)) (wd s * ht s) (wd s) (ht s)) m j Y → Z2 = r_go (r_st false f jz jps jln z L (wd s) (ht s) (r_fr (wd s) (ht s) (gSl Rz s) p) (gSl Rz s) p y) m j Z →
    HR sta pr bd wd ht V1 V2 tps tln tzs n Rz Y2 Z2 ∧ Bs ms Y2.2.2.2.2.2.2.2.2.2 Z2.2.2.2.2.2.2.2 ∧ LR sta pr bd wd ht n Y2.2.2.2.2.1 Y2.2.2.2.2.2.2.1 ∧ (∀ i, j ≤ i → i < bd s * (wd s * ht s) → Y2.2.2.2.2.1 (sta s + p * bd s * (wd s * ht s) + i) = decide (m_first tps (sta s + p * bd s * (wd s * ht s) + i) L < y + 1)) ∧ (∀ b, (∀ i, j ≤ i → i < bd s * (wd s * ht s) → ¬ b = sta s + p * bd s * (wd s * ht s) + i) → Y2.2.2.2.2.1 b = Y.2.2.2.2.1 b)
  | 0, j, Y, Z, hj, hH, hb, hl, hbn, Y2, Z2, eY, eZ => by
    rw [eY, eZ]
    exact ⟨hH, hb, hl, fun i h1 h2 => absurd h2 (by omega), fun b _ => rfl⟩
  | m + 1, j, Y, Z, hj, hH, hb, hl, hbn, Y2, Z2, eY, eZ => by
    have hj2 : j < bd s * (wd s * ht s) := by omega
    obtain ⟨k1, k2, k3, k4, k5, k6⟩ := blk_j (Rz := Rz) h hs hp hj2
    have hto := hT s hs _ k1 _ k2
    rw [t_go] at eY
    rw [r_go, if_pos hb.2.1] at eZ
    obtain ⟨Y1, eY1⟩ : ∃ x, x = t_st (bitW ms) (fpW ms) (flW ms) V1 V2 L y (sta s + p * bd s * (wd s * ht s)) (wd s * ht s) (wd s) (ht s) j Y := ⟨_, rfl⟩
    obtain ⟨Z1, eZ1⟩ : ∃ x, x = r_st false f jz jps jln z L (wd s) (ht s) (r_fr (wd s) (ht s) (gSl Rz s) p) (gSl Rz s) p y j Z := ⟨_, rfl⟩
    rw [← eY1] at eY
    rw [← eZ1] at eZ
    rw [st_C, ← k3] at eY1
    rw [st_M h hs hp hj2 hbg] at eZ1
    have hbj := hbn j (Nat.le_refl _) hj2
    rw [← k3] at hbj
    have hr := blk_rel (f := f) (z := z) h hR hgs hs k1 k2 hy hto.1 hto.2.1 hto.2.2 p2 p3 p4 (v1 s hs _ k1) (v2 s hs _ k1) hH hb hbj hl eY1 eZ1
    rw [k3] at hr
    obtain ⟨r1, r2, r3, r4, r5⟩ := hr
    have ih := go_rel (f := f) (z := z) h hR hgs hs hp hy hbg hT p2 p3 p4 v1 v2 m (j + 1) Y1 Z1 (by omega) r1 r2 r5 (fun i h1 h2 => by rw [r4 _ (by omega)]; exact hbn i (by omega) h2) Y2 Z2 eY eZ
    obtain ⟨i1, i2, i3, i4, i5⟩ := ih
    refine ⟨i1, i2, i3, fun i h1 h2 => ?_, fun b hb9 => ?_⟩
    · by_cases e : i = j
      · subst e
        rw [i5 _ (fun x hx1 hx2 => by omega), r3]
      · exact i4 i (by omega) h2
    · rw [i5 b (fun i h1 h2 => hb9 i (by omega) h2), r4 b (hb9 j (Nat.le_refl _) hj2)]
theorem r_any_iff {y fr : Nat} : ∀ N, r_any jps y fr N = true ↔ ∃ d, d < N ∧ 0 < jps (8 * (fr + d) + y)
  | 0 => ⟨fun h => Bool.noConfusion h, fun ⟨d, h, _⟩ => absurd h (Nat.not_lt_zero _)⟩
  | N + 1 => by
    rw [r_any, Bool.or_eq_true, r_any_iff N, decide_eq_true_eq]
    constructor
    · rintro (⟨d, h1, h2⟩ | h)
      · exact ⟨d, by omega, h2⟩
      · exact ⟨N, by omega, h⟩
    · rintro ⟨d, h1, h2⟩
      by_cases e : d = N
      · subst e; exact Or.inr h2
      · exact Or.inl ⟨d, by omega, h2⟩
theorem m_any_iff {ps : Nat → Nat} {y fr N : Nat} : m_any ps L y fr (fr + N) = true ↔ ∃ d, d < N ∧ 0 < ps ((fr + d) * L + y) := by
  unfold m_any
  rw [show fr + N - fr = N by omega, List.any_eq_true]
  constructor
  · rintro ⟨d, h1, h2⟩
    exact ⟨d, List.mem_range.mp h1, of_decide_eq_true h2⟩
  · rintro ⟨d, h1, h2⟩
    exact ⟨d, List.mem_range.mpr h1, decide_eq_true h2⟩
theorem any_eq (h : shp sta pr bd wd ht n) {s p y : Nat} (hs : s < n) (hp : p < pr s) (hy : y < L) (hT : tR sta pr bd wd ht tps tln tzs jps jln jz n Rz L) : m_any tps L y (sta s + p * bd s * (wd s * ht s)) (sta s + p * bd s * (wd s * ht s) + bd s * (wd s * ht s)) = r_any jps y (144 * gSl Rz s + p * bd s * (wd s * ht s)) (bd s * (wd s * ht s)) := by
  have key : ∀ d, d < bd s * (wd s * ht s) → tps ((sta s + p * bd s * (wd s * ht s) + d) * L + y) = jps (8 * (144 * gSl Rz s + p * bd s * (wd s * ht s) + d) + y) := by
    intro d hd
    obtain ⟨k1, k2, k3, k4, -, -⟩ := blk_j (Rz := Rz) h hs hp hd
    have := (hT s hs _ k1 _ k2).1 y hy
    rw [k3, k4] at this
    exact this
  rw [Bool.eq_iff_iff, m_any_iff, r_any_iff]
  constructor
  · rintro ⟨d, h1, h2⟩; exact ⟨d, h1, by rw [← key d h1]; exact h2⟩
  · rintro ⟨d, h1, h2⟩; exact ⟨d, h1, by rw [key d h1]; exact h2⟩
/-! a packet is written the same by both -/
set_option maxHeartbeats 4000000 in
theorem hd_rel {ms : Bool} {f : Nat → Nat} {z s p y : Nat} (h : shp sta pr bd wd ht n) (hR : 1 ≤ Rz ∧ Rz ≤ 4) (hgs : ∀ s, s < n → gSl Rz s < 12) (hs : s < n) (hp : p < pr s) (hy : y < L) (hbg : bd s = m_bnd (gSl Rz s)) (hT : tR sta pr bd wd ht tps tln tzs jps jln jz n Rz L) (p2 : ∀ j, tps j ≤ 164) (p3 : ∀ j, tln j < 2 ^ 16) (p4 : ∀ j, jz j ≤ 30)
    (v1 : ∀ s, s < n → ∀ q, q < pr s * bd s → vR V1 false jz jps sta wd ht Rz L s q) (v2 : ∀ s, s < n → ∀ q, q < pr s * bd s → vR V2 true jz jps sta wd ht Rz L s q) {Y : hS wT} {Z : kS} (hH : HR sta pr bd wd ht V1 V2 tps tln tzs n Rz Y Z) (hb : Be ms Y.2.2.2.2.2.2.2.2.2 Z.2.2.2.2.2.2.2) (hl : LR sta pr bd wd ht n Y.2.2.2.2.1 Y.2.2.2.2.2.2.1) (hbn : ∀ i, i < bd s * (wd s * ht s) → Y.2.2.2.2.1 (sta s + p * bd s * (wd s * ht s) + i) = decide (m_first tps (sta s + p * bd s * (wd s * ht s) + i) L < y))
    {Y2 : hS wT} {Z2 : kS} (eY : Y2 = t_hd (bitW ms) (fpW ms) (flW ms) V1 V2 L y (sta s + p * bd s * (wd s * ht s)) (wd s * ht s) (bd s) (wd s) (ht s) Y) (eZ : Z2 = r_hd false f jz jps jln z L (wd s) (ht s) (gSl Rz s) p y Z) :
    HR sta pr bd wd ht V1 V2 tps tln tzs n Rz (h_s (t_wend ms 8 Y2.2.2.2.2.2.2.2.2.2) Y2) Z2 ∧ Be ms (t_wend ms 8 Y2.2.2.2.2.2.2.2.2.2) Z2.2.2.2.2.2.2.2 ∧ LR sta pr bd wd ht n Y2.2.2.2.2.1 Y2.2.2.2.2.2.2.1 ∧ (∀ i, i < bd s * (wd s * ht s) → Y2.2.2.2.2.1 (sta s + p * bd s * (wd s * ht s) + i) = decide (m_first tps (sta s + p * bd s * (wd s * ht s) + i) L < y + 1)) ∧ (∀ b, (∀ i, i < bd s * (wd s * ht s) → ¬ b = sta s + p * bd s * (wd s * ht s) + i) → Y2.2.2.2.2.1 b = Y.2.2.2.2.1 b) := by
  have hbs := Be_beg hb
  have hany := any_eq (Rz := Rz) h hs hp hy hT
  have efr : r_fr (wd s) (ht s) (gSl Rz s) p = 144 * gSl Rz s + p * bd s * (wd s * ht s) := by unfold r_fr; rw [← hbg]
  obtain ⟨d, ed⟩ : ∃ x, x = m_any tps L y (sta s + p * bd s * (wd s * ht s)) (sta s + p * bd s * (wd s * ht s) + bd s * (wd s * ht s)) := ⟨_, rfl⟩
  have hbb := Bs_bit hbs d
  obtain ⟨Y1, eY1⟩ : ∃ x, x = h_s (bitW ms Y.2.2.2.2.2.2.2.2.2 d).2 Y := ⟨_, rfl⟩
  obtain ⟨Z1, eZ1⟩ : ∃ x, x = r_s (r_put (r_beg false Z.2.2.2.2.2.2.2) d) Z := ⟨_, rfl⟩
  have hH1 : HR sta pr bd wd ht V1 V2 tps tln tzs n Rz Y1 Z1 := by rw [eY1, eZ1]; exact hH
  have hb1 : Bs ms Y1.2.2.2.2.2.2.2.2.2 Z1.2.2.2.2.2.2.2 := by rw [eY1, eZ1]; exact hbb
  have hl1 : LR sta pr bd wd ht n Y1.2.2.2.2.1 Y1.2.2.2.2.2.2.1 := by rw [eY1]; exact hl
  have hn1 : Y1.2.2.2.2.1 = Y.2.2.2.2.1 := by rw [eY1]; rfl
  have eY3 : Y2 = if d = true then t_go (t_st (bitW ms) (fpW ms) (flW ms) V1 V2 L y (sta s + p * bd s * (wd s * ht s)) (wd s * ht s) (wd s) (ht s)) (bd s * (wd s * ht s)) 0 Y1 else Y1 := by
    rw [eY, eY1, ed, ← hH.1.1]
    rfl
  have eZ3 : Z2 = r_fz false f z (if d = true then r_go (r_st false f jz jps jln z L (wd s) (ht s) (r_fr (wd s) (ht s) (gSl Rz s) p) (gSl Rz s) p y) (bd s * (wd s * ht s)) 0 Z1 else Z1) := by
    rw [eZ, eZ1, ed, hany]
    unfold r_hd r_h2
    rw [bitM_W, ← hbg, efr]
  cases d with
  | true =>
    rw [if_pos rfl] at eY3 eZ3
    obtain ⟨Z4, eZ4⟩ : ∃ x, x = r_go (r_st false f jz jps jln z L (wd s) (ht s) (r_fr (wd s) (ht s) (gSl Rz s) p) (gSl Rz s) p y) (bd s * (wd s * ht s)) 0 Z1 := ⟨_, rfl⟩
    rw [← eZ4] at eZ3
    have hg := go_rel (f := f) (z := z) h hR hgs hs hp hy hbg hT p2 p3 p4 v1 v2 (bd s * (wd s * ht s)) 0 Y1 Z1 (by omega) hH1 hb1 hl1 (fun i _ h2 => by rw [hn1]; exact hbn i h2) Y2 Z4 eY3 eZ4
    obtain ⟨g1, g2, g3, g4, g5⟩ := hg
    rw [eZ3]
    refine ⟨g1, ?_, g3, fun i hi => g4 i (Nat.zero_le _) hi, fun b hb9 => by rw [g5 b (fun i _ hi => hb9 i hi), hn1]⟩
    show Be ms _ (r_fin false f z Z4.2.2.2.2.2.2.2)
    rw [r_fin_W]
    exact Bs_end g2
  | false =>
    rw [if_neg (by decide)] at eY3 eZ3
    subst eY3
    rw [eZ3]
    refine ⟨hH1, ?_, hl1, fun i hi => ?_, fun b _ => by rw [hn1]⟩
    · show Be ms _ (r_fin false f z Z1.2.2.2.2.2.2.2)
      rw [r_fin_W]
      exact Bs_end hb1
    · rw [hn1, hbn i hi]
      have hne : ¬ m_first tps (sta s + p * bd s * (wd s * ht s) + i) L = y := fun q => by
        have q2 := m_first_pos q hy
        have q3 := m_any_iff (L := L) (ps := tps) (y := y) (fr := sta s + p * bd s * (wd s * ht s)) (N := bd s * (wd s * ht s))
        rw [← ed] at q3
        exact Bool.noConfusion (q3.mpr ⟨i, hi, q2⟩)
      by_cases q : m_first tps (sta s + p * bd s * (wd s * ht s) + i) L < y
      · rw [decide_eq_true q, decide_eq_true (by omega)]
      · rw [decide_eq_false q, decide_eq_false (by omega)]
end PK

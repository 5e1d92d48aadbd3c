/-! the values of the class's trees are those of the reference -/
section LF
variable {v vs : Nat → Nat} {s0 sz : Nat}
theorem lf_pos {a b : Nat} (hz : 1 ≤ sz) (h : 2 * (s0 + a / sz * sz) + a % sz = 2 * (s0 + b / sz * sz) + b % sz) : a = b := by
  have h1 := Nat.mod_lt a (show 0 < sz by omega)
  have h2 := Nat.mod_lt b (show 0 < sz by omega)
  have e1 : a / sz * sz + a % sz = a := Nat.div_add_mod' a sz
  have e2 : b / sz * sz + b % sz = b := Nat.div_add_mod' b sz
  have key : ∀ A B r t : Nat, r < sz → t < sz → 2 * (s0 + A * sz) + r = 2 * (s0 + B * sz) + t → A = B ∧ r = t := by
    intro A B r t hr ht hh
    rcases Nat.lt_trichotomy A B with z | z | z
    · have := Nat.mul_le_mul_right sz (show A + 1 ≤ B by omega)
      rw [show (A + 1) * sz = A * sz + sz from Nat.succ_mul _ _] at this
      omega
    · subst z; exact ⟨rfl, by omega⟩
    · have := Nat.mul_le_mul_right sz (show B + 1 ≤ A by omega)
      rw [show (B + 1) * sz = B * sz + sz from Nat.succ_mul _ _] at this
      omega
  obtain ⟨k1, k2⟩ := key _ _ _ _ h1 h2 h
  rw [← e1, ← e2, k1, k2]
theorem lf_out {j : Nat} : ∀ N, (∀ a, a < N → ¬ j = 2 * (s0 + a / sz * sz) + a % sz) → m_lf v s0 sz vs N j = vs j
  | 0, _ => rfl
  | N + 1, h => by rw [m_lf, va_up_ne _ _ (h N (by omega)), lf_out N (fun a ha => h a (by omega))]
theorem lf_at (hz : 1 ≤ sz) {a : Nat} : ∀ N, a < N → m_lf v s0 sz vs N (2 * (s0 + a / sz * sz) + a % sz) = v (s0 + a)
  | 0, h => absurd h (Nat.not_lt_zero _)
  | N + 1, h => by
    rw [m_lf]
    by_cases e : a = N
    · subst e; rw [va_up_self]
    · rw [va_up_ne _ _ (fun z => e (lf_pos hz z)), lf_at hz N (by omega)]
end LF
section VS
variable {v vs sta pr bd wd ht : Nat → Nat} {n : Nat}
/-- what a slot writes lies in its own room -/
theorem sv_out (h : shp sta pr bd wd ht n) {j : Nat} : ∀ i, i ≤ n → (j < 2 * sta 0 ∨ 2 * sta i ≤ j) → m_sv v sta pr bd wd ht vs i j = vs j
  | 0, _, _ => rfl
  | i + 1, hi, hj => by
    have h1 := h.1 i (by omega)
    have hz := sz_lim h (show i < n by omega)
    have h0 := shp_le h i 0 (Nat.zero_le _) (by omega)
    rw [m_sv, lf_out, sv_out h i (by omega) (by omega)]
    intro a ha z
    have e1 : a / (wd i * ht i) * (wd i * ht i) + a % (wd i * ht i) = a := Nat.div_add_mod' a _
    omega
theorem sv_slot (h : shp sta pr bd wd ht n) {j s : Nat} (hs : s < n) (h1 : 2 * sta s ≤ j) (h2 : j < 2 * sta (s + 1)) : ∀ i, s < i → i ≤ n → m_sv v sta pr bd wd ht vs i j = m_lf v (sta s) (wd s * ht s) (m_sv v sta pr bd wd ht vs s) (pr s * bd s * (wd s * ht s)) j
  | 0, hi, _ => absurd hi (Nat.not_lt_zero _)
  | i + 1, hi, hn => by
    rw [m_sv]
    by_cases e : s = i
    · subst e; rfl
    · have h3 := shp_le h i (s + 1) (by omega) (by omega)
      rw [lf_out, sv_slot h hs h1 h2 i (by omega) (by omega)]
      intro a ha z
      omega
theorem sv_leaf (h : shp sta pr bd wd ht n) {s q e : Nat} (hs : s < n) (hq : q < pr s * bd s) (he : e < wd s * ht s) : m_sv v sta pr bd wd ht vs n (aB sta wd ht s q + e) = v (cB sta wd ht s q e) := by
  have h1 := h.1 s hs
  have hf := q_fit hq he
  have hd := m_dm (y := q) he
  have hz := sz_lim h hs
  have e1 : aB sta wd ht s q + e = 2 * (sta s + (q * (wd s * ht s) + e) / (wd s * ht s) * (wd s * ht s)) + (q * (wd s * ht s) + e) % (wd s * ht s) := by rw [hd.1, hd.2]; rfl
  have b1 : 2 * sta s ≤ aB sta wd ht s q + e := by unfold aB; omega
  have b2 : aB sta wd ht s q + e < 2 * sta (s + 1) := by unfold aB; omega
  rw [sv_slot h hs b1 b2 n hs (Nat.le_refl _), e1, lf_at hz.2.1 _ hf]
  unfold cB
  rw [Nat.add_assoc]
theorem sv_node (h : shp sta pr bd wd ht n) {s q i : Nat} (hs : s < n) (hq : q < pr s * bd s) (h1 : wd s * ht s ≤ i) (h2 : i < 2 * (wd s * ht s)) : m_sv v sta pr bd wd ht vs n (aB sta wd ht s q + i) = vs (aB sta wd ht s q + i) := by
  have hsz := h.1 s hs
  have hz := sz_lim h hs
  have a1 : q * (wd s * ht s) + wd s * ht s ≤ pr s * bd s * (wd s * ht s) := by
    have := Nat.mul_le_mul_right (wd s * ht s) (show q + 1 ≤ pr s * bd s by omega)
    rw [show (q + 1) * (wd s * ht s) = q * (wd s * ht s) + wd s * ht s from Nat.succ_mul _ _] at this
    exact this
  have b1 : 2 * sta s ≤ aB sta wd ht s q + i := by unfold aB; omega
  have b2 : aB sta wd ht s q + i < 2 * sta (s + 1) := by unfold aB; omega
  rw [sv_slot h hs b1 b2 n hs (Nat.le_refl _), lf_out, sv_out h s (by omega) (Or.inr b1)]
  intro a ha z
  have hm := Nat.mod_lt a (show 0 < wd s * ht s by omega)
  unfold aB at z
  rcases Nat.lt_trichotomy q (a / (wd s * ht s)) with c | c | c
  · have := Nat.mul_le_mul_right (wd s * ht s) (show q + 1 ≤ a / (wd s * ht s) from c)
    rw [show (q + 1) * (wd s * ht s) = q * (wd s * ht s) + wd s * ht s from Nat.succ_mul _ _] at this
    generalize a / (wd s * ht s) * (wd s * ht s) = y at *
    generalize a % (wd s * ht s) = x at *
    omega
  · rw [← c] at z
    generalize a % (wd s * ht s) = x at *
    omega
  · have := Nat.mul_le_mul_right (wd s * ht s) (show a / (wd s * ht s) + 1 ≤ q from c)
    rw [show (a / (wd s * ht s) + 1) * (wd s * ht s) = a / (wd s * ht s) * (wd s * ht s) + wd s * ht s from Nat.succ_mul _ _] at this
    generalize a / (wd s * ht s) * (wd s * ht s) = y at *
    generalize a % (wd s * ht s) = x at *
    omega
/-- every place lies in a band -/
theorem band_at (h : shp sta pr bd wd ht n) (h0 : sta 0 = 0) {j : Nat} : ∀ i, i ≤ n → j < 2 * sta i → ∃ s q, s < i ∧ q < pr s * bd s ∧ aB sta wd ht s q ≤ j ∧ j < aB sta wd ht s q + 2 * (wd s * ht s)
  | 0, _, hj => by rw [h0] at hj; exact absurd hj (Nat.not_lt_zero _)
  | i + 1, hi, hj => by
    by_cases c : j < 2 * sta i
    · obtain ⟨s, q, a1, a2, a3, a4⟩ := band_at h h0 i (by omega) c
      exact ⟨s, q, by omega, a2, a3, a4⟩
    · have h1 := h.1 i (by omega)
      have hz := sz_lim h (show i < n by omega)
      have e := Nat.div_add_mod' (j - 2 * sta i) (2 * (wd i * ht i))
      have m := Nat.mod_lt (j - 2 * sta i) (show 0 < 2 * (wd i * ht i) by omega)
      have hq : (j - 2 * sta i) / (2 * (wd i * ht i)) < pr i * bd i := by
        refine Nat.div_lt_of_lt_mul ?_
        have e2 : 2 * (wd i * ht i) * (pr i * bd i) = 2 * (pr i * bd i * (wd i * ht i)) := by simp only [Nat.mul_comm, Nat.mul_left_comm, Nat.mul_assoc]
        rw [e2]; omega
      refine ⟨i, (j - 2 * sta i) / (2 * (wd i * ht i)), by omega, hq, ?_, ?_⟩
      · unfold aB
        have e3 : (j - 2 * sta i) / (2 * (wd i * ht i)) * (2 * (wd i * ht i)) = 2 * ((j - 2 * sta i) / (2 * (wd i * ht i)) * (wd i * ht i)) := by rw [Nat.mul_left_comm]
        rw [e3] at e
        omega
      · unfold aB
        have e3 : (j - 2 * sta i) / (2 * (wd i * ht i)) * (2 * (wd i * ht i)) = 2 * ((j - 2 * sta i) / (2 * (wd i * ht i)) * (wd i * ht i)) := by rw [Nat.mul_left_comm]
        rw [e3] at e
        omega
theorem vR_of (h : shp sta pr bd wd ht n) (h0 : sta 0 = 0) {Rz L N : Nat} {g : Nat → Option Nat} {jz jps : Nat → Nat} {zr : Bool} (hN : sta n ≤ N) (hg : ∀ j, j < 2 * N → g j = none) (hv : ∀ s, s < n → ∀ q, q < pr s * bd s → ∀ e, e < wd s * ht s → v (cB sta wd ht s q e) = r_own zr jz jps L (144 * gSl Rz s + q * (wd s * ht s)) e) (hb : ∀ j, v j ≤ 1000) : ∀ s, s < n → ∀ q, q < pr s * bd s → vR (m_gath (m_sg sta pr bd wd ht g n) (m_sv v sta pr bd wd ht (m_fill 1000 (2 * sta n) vs) n) (2 * sta n)) zr jz jps sta wd ht Rz L s q := by
  intro s hs q hq e he
  have h2 := h.2 s hs
  have h1 := h.1 s hs
  have hle := shp_le h n (s + 1) (by omega) (Nat.le_refl _)
  have a1 : q * (wd s * ht s) + wd s * ht s ≤ pr s * bd s * (wd s * ht s) := by
    have := Nat.mul_le_mul_right (wd s * ht s) (show q + 1 ≤ pr s * bd s by omega)
    rw [show (q + 1) * (wd s * ht s) = q * (wd s * ht s) + wd s * ht s from Nat.succ_mul _ _] at this
    exact this
  have hu : ∀ e, e < wd s * ht s → m_sv v sta pr bd wd ht (m_fill 1000 (2 * sta n) vs) n (aB sta wd ht s q + e) = r_own zr jz jps L (144 * gSl Rz s + q * (wd s * ht s)) e := fun e he => by rw [sv_leaf h hs hq he, hv s hs q hq e he]
  have hn : ∀ i, wd s * ht s ≤ i → i < 2 * (wd s * ht s) → m_sv v sta pr bd wd ht (m_fill 1000 (2 * sta n) vs) n (aB sta wd ht s q + i) = 1000 := fun i q1 q2 => by
    rw [sv_node h hs hq q1 q2]
    unfold m_fill
    rw [if_pos (by unfold aB; omega)]
  have hub : ∀ e, e < wd s * ht s → r_own zr jz jps L (144 * gSl Rz s + q * (wd s * ht s)) e ≤ 1000 := fun e he => by rw [← hv s hs q hq e he]; exact hb _
  have hpl := m_sg_pl (g := g) h hN hg n (Nat.le_refl _)
  have hin : ∀ i, i < 2 * sta n → ∀ p, m_sg sta pr bd wd ht g n i = some p → aB sta wd ht s q ≤ p → p < aB sta wd ht s q + 2 * (wd s * ht s) → aB sta wd ht s q ≤ i ∧ i < aB sta wd ht s q + 2 * (wd s * ht s) := by
    intro i hi p hp q1 q2
    obtain ⟨t, x, t1, t2, t3, t4⟩ := band_at h h0 n (Nat.le_refl _) hi
    have ht2 := h.2 t t1
    have tp := hpl t t1 x t2 (i - aB sta wd ht t x) (by omega)
    have e1 : 2 * (sta t + x * (wd t * ht t)) + (i - aB sta wd ht t x) = i := by unfold aB at t3 ⊢; omega
    rw [e1, hp] at tp
    cases hm : m_tr (wd t) (ht t) (i - aB sta wd ht t x) with
    | none => rw [hm] at tp; cases tp
    | some z =>
      rw [hm] at tp
      have e2 : p = aB sta wd ht t x + z := Option.some.inj tp
      have hz := tr_in (wd t) (by omega) (ht t) (by omega) (i - aB sta wd ht t x) (by omega) z hm
      obtain ⟨k1, k2, k3⟩ := aB_inj h t1 t2 hz hs hq (show p - aB sta wd ht s q < 2 * (wd s * ht s) by omega) (by omega)
      subst k1; subst k2
      exact ⟨t3, t4⟩
  have key : ∀ l, l < m_lev (wd s) (ht s) + 1 → ∀ e, e < wd s * ht s → m_gath (m_sg sta pr bd wd ht g n) (m_sv v sta pr bd wd ht (m_fill 1000 (2 * sta n) vs) n) (2 * sta n) (aB sta wd ht s q + r_node (wd s) (ht s) e l) = m_lst (r_own zr jz jps L (144 * gSl Rz s + q * (wd s * ht s))) (wd s) l (e % wd s / 2 ^ l) (e / wd s / 2 ^ l) (wd s * ht s) := fun l hl e he =>
    val_eq h2.2.2.1 h2.2.2.2 (hpl s hs q hq) hin (by omega) hu hn hub hl he
  refine ⟨fun l hl => ?_, fun l hl => ?_, ?_⟩
  · rw [key l hl e he]
    unfold r_vl
    rw [if_neg (by decide)]
  · unfold r_vl
    rw [if_neg (by decide), if_neg (by decide)]
    exact val_mono h2.2.2.1 h2.2.2.2 hl he hub
  · have k0 := key 0 (by omega) e he
    have e0 : r_vl false zr jz jps L (144 * gSl Rz s + q * (wd s * ht s)) (wd s) (ht s) e 0 = m_lst (r_own zr jz jps L (144 * gSl Rz s + q * (wd s * ht s))) (wd s) 0 (e % wd s / 2 ^ 0) (e / wd s / 2 ^ 0) (wd s * ht s) := by
      unfold r_vl
      rw [if_neg (by decide)]
    rw [e0]
    refine Nat.le_antisymm ?_ ?_
    · exact ((lst_le _).mp (Nat.le_refl _)).2 e he ⟨rfl, rfl⟩
    · refine (lst_le _).mpr ⟨hub e he, fun k hk z => ?_⟩
      rw [Nat.pow_zero, Nat.div_one, Nat.div_one, Nat.div_one, Nat.div_one] at z
      have e1 := Nat.div_add_mod k (wd s)
      have e2 := Nat.div_add_mod e (wd s)
      rw [z.1, z.2] at e1
      have e3 : k = e := e1.symm.trans e2
      rw [e3]
      exact Nat.le_refl _
end VS

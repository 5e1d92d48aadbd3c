/-! the class's trees -/
/-- a row of nodes gets its parents -/
def m_pl (g : Nat → Option Nat) (row w above wa n : Nat) : Nat → Option Nat := fun j => if row ≤ j ∧ j < row + n then some (above + (j - row) / w / 2 * wa + (j - row) % w / 2) else g j
theorem m_pl_0 {g : Nat → Option Nat} {row w above wa : Nat} : m_pl g row w above wa 0 = g := by
  funext j
  unfold m_pl
  rw [if_neg (by omega)]
theorem m_dm {y w x : Nat} (hx : x < w) : (y * w + x) / w = y ∧ (y * w + x) % w = x := by
  have h0 : 0 < w := by omega
  constructor
  · rw [Nat.mul_comm, Nat.mul_add_div h0, Nat.div_eq_of_lt hx, Nat.add_zero]
  · rw [Nat.mul_comm, Nat.mul_add_mod, Nat.mod_eq_of_lt hx]
theorem m_pl_s {g : Nat → Option Nat} {row w above wa y x : Nat} (hx : x < w) : va_up (m_pl g row w above wa (y * w + x)) (row + y * w + x) (some (above + y / 2 * wa + x / 2)) = m_pl g row w above wa (y * w + (x + 1)) := by
  funext j
  obtain ⟨h1, h2⟩ := m_dm (y := y) hx
  unfold va_up m_pl
  by_cases e : j = row + y * w + x
  · rw [if_pos e, if_pos (by omega), show j - row = y * w + x by omega, h1, h2]
  · rw [if_neg e]
    by_cases h : row ≤ j ∧ j < row + (y * w + x)
    · rw [if_pos h, if_pos (by omega)]
    · rw [if_neg h, if_neg (by omega)]
def m_pln : Nat → (Nat → Option Nat) → Nat → Nat → Nat → (Nat → Option Nat)
  | 0, g, _, _, _ => g
  | n + 1, g, row, w, h => if 1 < w * h then m_pln n (m_pl g row w (row + w * h) ((w + 1) / 2) (w * h)) (row + w * h) ((w + 1) / 2) ((h + 1) / 2) else g
theorem m_pln_stop {n : Nat} {g : Nat → Option Nat} {row w h : Nat} (q : n = 0 ∨ w * h ≤ 1) : m_pln n g row w h = g := by
  cases n with
  | zero => rfl
  | succ n => rw [m_pln, if_neg (by omega)]
theorem m_pln_s {rw_ : Nat} {g : Nat → Option Nat} {row w h : Nat} (q1 : rw_ < 3) (q : 1 < w * h) : m_pln (3 - rw_) g row w h = m_pln (3 - (rw_ + 1)) (m_pl g row w (row + w * h) ((w + 1) / 2) (w * h)) (row + w * h) ((w + 1) / 2) ((h + 1) / 2) := by
  rw [show 3 - rw_ = (3 - (rw_ + 1)) + 1 by omega, m_pln, if_pos q]
/-- the nodes that planting can touch -/
theorem m_pl_out {g : Nat → Option Nat} {row w above wa n j : Nat} (h : j < row ∨ row + n ≤ j) : m_pl g row w above wa n j = g j := by
  unfold m_pl
  rw [if_neg (by omega)]
theorem m_pl_sh {g : Nat → Option Nat} {g0 : Nat → Option Nat} {a row w above wa n N : Nat} (h : ∀ i, i < N → g (a + i) = (g0 i).map (a + ·)) : ∀ i, i < N → m_pl g (a + row) w (a + above) wa n (a + i) = (m_pl g0 row w above wa n i).map (a + ·) := by
  intro i hi
  unfold m_pl
  by_cases e : row ≤ i ∧ i < row + n
  · rw [if_pos (by omega), if_pos e, show a + i - (a + row) = i - row by omega]
    show some (a + above + (i - row) / w / 2 * wa + (i - row) % w / 2) = some (a + (above + (i - row) / w / 2 * wa + (i - row) % w / 2))
    congr 1
    omega
  · rw [if_neg (by omega), if_neg e]
    exact h i hi
theorem m_pln_sh {a N : Nat} : ∀ (n : Nat) (g g0 : Nat → Option Nat) (row w h : Nat), (∀ i, i < N → g (a + i) = (g0 i).map (a + ·)) → ∀ i, i < N → m_pln n g (a + row) w h (a + i) = (m_pln n g0 row w h i).map (a + ·)
  | 0, g, g0, row, w, h, hg => hg
  | n + 1, g, g0, row, w, h, hg => by
    intro i hi
    rw [m_pln, m_pln]
    by_cases e : 1 < w * h
    · rw [if_pos e, if_pos e]
      have := m_pln_sh n (m_pl g (a + row) w (a + row + w * h) ((w + 1) / 2) (w * h)) (m_pl g0 row w (row + w * h) ((w + 1) / 2) (w * h)) (row + w * h) ((w + 1) / 2) ((h + 1) / 2) (by rw [Nat.add_assoc]; exact m_pl_sh hg) i hi
      rw [← Nat.add_assoc] at this
      exact this
    · rw [if_neg e, if_neg e]
      exact hg i hi
theorem m_pln_lo {j : Nat} : ∀ (n : Nat) (g : Nat → Option Nat) (row w h : Nat), j < row → m_pln n g row w h j = g j
  | 0, _, _, _, _, _ => rfl
  | n + 1, g, row, w, h, hj => by
    rw [m_pln]
    split
    · rw [m_pln_lo n _ _ _ _ (by omega), m_pl_out (Or.inl hj)]
    · rfl
/-- the tree of a band alone -/
def m_tr (w h : Nat) : Nat → Option Nat := m_pln 2 (fun _ => none) 0 w h
theorem m_tr_up : ∀ w, w < 5 → ∀ h, h < 4 → ∀ b, b < w * h → ∀ l, l < m_lev w h → m_tr w h (r_node w h b l) = some (r_node w h b (l + 1)) := by decide +kernel
theorem m_tr_top : ∀ w, w < 5 → ∀ h, h < 4 → ∀ b, b < w * h → m_tr w h (r_node w h b (m_lev w h)) = none := by decide +kernel
theorem r_node_2 : ∀ w, w < 5 → ∀ h, h < 4 → ∀ b, b < w * h → ∀ l, l < m_lev w h + 1 → r_node w h b l < 2 * (w * h) := by decide +kernel
theorem m_tr_out {w h : Nat} (hw : w ≤ 4) (hh : h ≤ 3) : ∀ i, 2 * (w * h) ≤ i → m_tr w h i = none := by
  intro i hi
  have e : ∀ w, w < 5 → ∀ h, h < 4 → w * h ≤ 1 ∨ (w * h + (w + 1) / 2 * ((h + 1) / 2) ≤ 2 * (w * h)) := by decide +kernel
  unfold m_tr
  rcases e w (by omega) h (by omega) with q | q
  · rw [m_pln_stop (Or.inr q)]
  · rw [m_pln]
    split
    · rw [m_pln]
      split
      · rw [m_pln, m_pl_out (by omega), m_pl_out (by omega)]
      · rw [m_pl_out (by omega)]
    · rfl
/-- a band's tree stands at a -/
def tPl (g : Nat → Option Nat) (a w h : Nat) : Prop := ∀ i, i < 2 * (w * h) → g (a + i) = (m_tr w h i).map (a + ·)
theorem tPl_at {g : Nat → Option Nat} {a w h : Nat} (hg : ∀ i, i < 2 * (w * h) → g (a + i) = none) : tPl (m_pln 2 g a w h) a w h := by
  intro i hi
  exact m_pln_sh (a := a) (N := 2 * (w * h)) 2 g (fun _ => none) 0 w h (fun i hi => hg i hi) i hi
theorem m_pln_hi {g : Nat → Option Nat} {a w h : Nat} (hw : w ≤ 4) (hh : h ≤ 3) : ∀ j, a + 2 * (w * h) ≤ j → m_pln 2 g a w h j = g j := by
  intro j hj
  have e : ∀ w, w < 5 → ∀ h, h < 4 → w * h ≤ 1 ∨ (w * h + (w + 1) / 2 * ((h + 1) / 2) ≤ 2 * (w * h)) := by decide +kernel
  rcases e w (by omega) h (by omega) with q | q
  · rw [m_pln_stop (Or.inr q)]
  · rw [m_pln]
    split
    · rw [m_pln]
      split
      · rw [m_pln, m_pl_out (by omega), m_pl_out (by omega)]
      · rw [m_pl_out (by omega)]
    · rfl
theorem tPl_up {g : Nat → Option Nat} {a w h b : Nat} (hw : w ≤ 4) (hh : h ≤ 3) (hb : b < w * h) (t : tPl g a w h) : ∀ k, k + 1 < m_lev w h + 1 → g (r_qq a w h b k) = some (r_qq a w h b (k + 1)) := by
  intro k hk
  unfold r_qq
  rw [t _ (r_node_2 w (by omega) h (by omega) b hb k (by omega)), m_tr_up w (by omega) h (by omega) b hb k (by omega)]
  rfl
theorem tPl_top {g : Nat → Option Nat} {a w h b : Nat} (hw : w ≤ 4) (hh : h ≤ 3) (hb : b < w * h) (t : tPl g a w h) : g (r_qq a w h b (m_lev w h + 1 - 1)) = none := by
  unfold r_qq
  rw [show m_lev w h + 1 - 1 = m_lev w h by omega, t _ (r_node_2 w (by omega) h (by omega) b hb (m_lev w h) (by omega)), m_tr_top w (by omega) h (by omega) b hb]
  rfl
theorem r_qq_lt {a w h b k N : Nat} (hw : w ≤ 4) (hh : h ≤ 3) (hb : b < w * h) (hN : a + 2 * (w * h) ≤ N) (hk : k < m_lev w h + 1) : r_qq a w h b k < N := by
  unfold r_qq
  have := r_node_2 w (by omega) h (by omega) b hb k hk
  omega
/-- the bands of a slot; its blocks' values -/
def m_pg (g : Nat → Option Nat) (s0 sz w h : Nat) : Nat → (Nat → Option Nat)
  | 0 => g
  | n + 1 => m_pln 2 (m_pg g s0 sz w h n) (2 * (s0 + n * sz)) w h
def m_lf (v : Nat → Nat) (s0 sz : Nat) (vs : Nat → Nat) : Nat → (Nat → Nat)
  | 0 => vs
  | n + 1 => va_up (m_lf v s0 sz vs n) (2 * (s0 + n / sz * sz) + n % sz) (v (s0 + n))
theorem m_lf_s {v vs : Nat → Nat} {s0 sz i e : Nat} (he : e < sz) : va_up (m_lf v s0 sz vs (i * sz + e)) (s0 + i * sz + (s0 + i * sz + e)) (v (s0 + i * sz + e)) = m_lf v s0 sz vs (i * sz + (e + 1)) := by
  obtain ⟨h1, h2⟩ := m_dm (y := i) he
  show _ = m_lf v s0 sz vs (i * sz + e + 1)
  rw [m_lf, h1, h2, show 2 * (s0 + i * sz) + e = s0 + i * sz + (s0 + i * sz + e) by omega, show s0 + (i * sz + e) = s0 + i * sz + e by omega]
theorem m_lf_lt {v vs : Nat → Nat} {s0 sz B : Nat} (hv : ∀ j, v j < B) (h : ∀ j, vs j < B) : ∀ n j, m_lf v s0 sz vs n j < B
  | 0, j => h j
  | n + 1, j => m_up_lt (m_lf_lt hv h n) (hv _) j
def m_sg (sta pr bd wd ht : Nat → Nat) (g : Nat → Option Nat) : Nat → (Nat → Option Nat)
  | 0 => g
  | i + 1 => m_pg (m_sg sta pr bd wd ht g i) (sta i) (wd i * ht i) (wd i) (ht i) (pr i * bd i)
def m_sv (v sta pr bd wd ht : Nat → Nat) (vs : Nat → Nat) : Nat → (Nat → Nat)
  | 0 => vs
  | i + 1 => m_lf v (sta i) (wd i * ht i) (m_sv v sta pr bd wd ht vs i) (pr i * bd i * (wd i * ht i))
theorem m_sv_lt {v sta pr bd wd ht vs : Nat → Nat} {B : Nat} (hv : ∀ j, v j < B) (h : ∀ j, vs j < B) : ∀ i j, m_sv v sta pr bd wd ht vs i j < B
  | 0, j => h j
  | i + 1, j => m_lf_lt hv (m_sv_lt hv h i) _ j
theorem m_pg_lo {g : Nat → Option Nat} {s0 sz w h j : Nat} (hj : j < 2 * s0) : ∀ n, m_pg g s0 sz w h n j = g j
  | 0 => rfl
  | n + 1 => by
    have : 2 * s0 ≤ 2 * (s0 + n * sz) := by omega
    rw [m_pg, m_pln_lo _ _ _ _ _ (by omega), m_pg_lo hj n]
theorem m_pg_hi {g : Nat → Option Nat} {s0 sz w h j : Nat} (hw : w ≤ 4) (hh : h ≤ 3) (hs : sz = w * h) : ∀ n, 2 * (s0 + n * sz) ≤ j → m_pg g s0 sz w h n j = g j
  | 0, _ => rfl
  | n + 1, q => by
    rw [show (n + 1) * sz = n * sz + sz from Nat.succ_mul n sz] at q
    rw [m_pg, m_pln_hi hw hh _ (by omega), m_pg_hi hw hh hs n (by omega)]
theorem m_pg_pl {g : Nat → Option Nat} {s0 sz w h : Nat} (hw : w ≤ 4) (hh : h ≤ 3) (hs : sz = w * h) : ∀ n, (∀ j, 2 * s0 ≤ j → j < 2 * (s0 + n * sz) → g j = none) → ∀ k, k < n → tPl (m_pg g s0 sz w h n) (2 * (s0 + k * sz)) w h
  | 0, _, _, hk => absurd hk (Nat.not_lt_zero _)
  | n + 1, hn, k, hk => by
    rw [show (n + 1) * sz = n * sz + sz from Nat.succ_mul n sz] at hn
    have ih := m_pg_pl hw hh hs n (fun j h1 h2 => hn j h1 (by omega))
    rw [m_pg]
    by_cases e : k = n
    · subst e
      refine tPl_at (fun i hi => ?_)
      rw [m_pg_hi hw hh hs k (by omega)]
      exact hn _ (by omega) (by omega)
    · intro i hi
      have h1 : k * sz + sz ≤ n * sz := by
        have := Nat.mul_le_mul_right sz (show k + 1 ≤ n by omega)
        rw [Nat.succ_mul] at this
        exact this
      rw [m_pln_lo _ _ _ _ _ (by omega)]
      exact ih k (by omega) i hi
/-- the slots' shapes are sound, up to n -/
def shp (sta pr bd wd ht : Nat → Nat) (n : Nat) : Prop := (∀ k, k < n → sta (k + 1) = sta k + pr k * bd k * (wd k * ht k)) ∧ (∀ k, k < n → (1 ≤ pr k ∧ pr k ≤ 4) ∧ (1 ≤ bd k ∧ bd k ≤ 3) ∧ (1 ≤ wd k ∧ wd k ≤ 4) ∧ (1 ≤ ht k ∧ ht k ≤ 3))
theorem shp_le {sta pr bd wd ht : Nat → Nat} {n : Nat} (h : shp sta pr bd wd ht n) : ∀ i k, k ≤ i → i ≤ n → sta k ≤ sta i
  | 0, k, h1, _ => by rw [show k = 0 by omega]; exact Nat.le_refl _
  | i + 1, k, h1, h2 => by
    by_cases e : k = i + 1
    · rw [e]; exact Nat.le_refl _
    · have h3 := shp_le h i k (by omega) (by omega)
      have h4 := h.1 i (by omega)
      omega
theorem m_sg_hi {sta pr bd wd ht : Nat → Nat} {g : Nat → Option Nat} {n : Nat} (h : shp sta pr bd wd ht n) : ∀ i, i ≤ n → ∀ j, 2 * sta i ≤ j → m_sg sta pr bd wd ht g i j = g j
  | 0, _, _, _ => rfl
  | i + 1, hi, j, hj => by
    have h1 := h.1 i (by omega)
    have h2 := h.2 i (by omega)
    rw [m_sg, m_pg_hi h2.2.2.1.2 h2.2.2.2.2 rfl _ (by omega), m_sg_hi h i (by omega) j (by omega)]
theorem m_sg_pl {sta pr bd wd ht : Nat → Nat} {g : Nat → Option Nat} {n N : Nat} (h : shp sta pr bd wd ht n) (hN : sta n ≤ N) (hg : ∀ j, j < 2 * N → g j = none) : ∀ i, i ≤ n → ∀ s, s < i → ∀ k, k < pr s * bd s → tPl (m_sg sta pr bd wd ht g i) (2 * (sta s + k * (wd s * ht s))) (wd s) (ht s)
  | 0, _, _, hs, _, _ => absurd hs (Nat.not_lt_zero _)
  | i + 1, hi, s, hs, k, hk => by
    have h1 := h.1 i (by omega)
    have h2 := h.2 i (by omega)
    have hl := shp_le h n (i + 1) hi (Nat.le_refl _)
    rw [m_sg]
    by_cases e : s = i
    · subst e
      refine m_pg_pl h2.2.2.1.2 h2.2.2.2.2 rfl _ (fun j q1 q2 => ?_) k hk
      rw [m_sg_hi h s (by omega) j q1]
      exact hg j (by omega)
    · intro x hx
      have hs2 := h.1 s (by omega)
      have hs3 := shp_le h i (s + 1) (by omega) (by omega)
      have h5 : k * (wd s * ht s) + (wd s * ht s) ≤ pr s * bd s * (wd s * ht s) := by
        have := Nat.mul_le_mul_right (wd s * ht s) (show k + 1 ≤ pr s * bd s by omega)
        rw [Nat.succ_mul] at this
        exact this
      rw [m_pg_lo (by omega)]
      exact m_sg_pl h hN hg i (by omega) s (by omega) k hk x hx
/-- what a tree names lies within it -/
theorem m_pln_in {g : Nat → Option Nat} {a w h N : Nat} (hw : 1 ≤ w ∧ w ≤ 4) (hh : 1 ≤ h ∧ h ≤ 3) (hN : a + 2 * (w * h) ≤ N) (hg : ∀ i p, g i = some p → p < N) : ∀ i p, m_pln 2 g a w h i = some p → p < N := by
  intro i p hp
  have hz : ∀ w, w < 5 → ∀ h, h < 4 → 1 ≤ w → 1 ≤ h → (w + 1) / 2 * ((h + 1) / 2) ≤ w * h ∧ ((w + 1) / 2 + 1) / 2 * (((h + 1) / 2 + 1) / 2) ≤ 1 := by decide +kernel
  have hrow : ∀ (g : Nat → Option Nat) (row w h : Nat), 1 ≤ w → (∀ i p, g i = some p → p < N) → row + w * h + (w + 1) / 2 * ((h + 1) / 2) ≤ N → ∀ i p, m_pl g row w (row + w * h) ((w + 1) / 2) (w * h) i = some p → p < N := by
    intro g row w h hw hg hN i p hp
    unfold m_pl at hp
    split at hp
    · rename_i q
      cases hp
      have h1 : (i - row) / w < h := Nat.div_lt_of_lt_mul (by omega)
      have h2 : (i - row) % w < w := Nat.mod_lt _ (by omega)
      have h3 : (i - row) / w / 2 + 1 ≤ (h + 1) / 2 := by omega
      have h4 := Nat.mul_le_mul_left ((w + 1) / 2) h3
      rw [Nat.mul_add, Nat.mul_one, Nat.mul_comm] at h4
      have h5 : (i - row) % w / 2 < (w + 1) / 2 := by omega
      omega
    · exact hg i p hp
  have hq := hz w (by omega) h (by omega) hw.1 hh.1
  rw [m_pln] at hp
  split at hp
  · have h1 := hrow g a w h hw.1 hg (by omega)
    rw [m_pln] at hp
    split at hp
    · rename_i q1 q2
      have h3 : (w + 1) / 2 * ((h + 1) / 2) + ((w + 1) / 2 + 1) / 2 * (((h + 1) / 2 + 1) / 2) ≤ w * h := by
        have : ∀ w, w < 5 → ∀ h, h < 4 → 1 < (w + 1) / 2 * ((h + 1) / 2) → (w + 1) / 2 * ((h + 1) / 2) + ((w + 1) / 2 + 1) / 2 * (((h + 1) / 2 + 1) / 2) ≤ w * h := by decide +kernel
        exact this w (by omega) h (by omega) q2
      exact hrow _ (a + w * h) ((w + 1) / 2) ((h + 1) / 2) (by omega) h1 (by omega) i p hp
    · exact h1 i p hp
  · exact hg i p hp
theorem m_pg_in {g : Nat → Option Nat} {s0 sz w h N : Nat} (hw : 1 ≤ w ∧ w ≤ 4) (hh : 1 ≤ h ∧ h ≤ 3) (hs : sz = w * h) (hg : ∀ i p, g i = some p → p < N) : ∀ n, 2 * (s0 + n * sz) ≤ N → ∀ i p, m_pg g s0 sz w h n i = some p → p < N
  | 0, _ => hg
  | n + 1, q => by
    rw [show (n + 1) * sz = n * sz + sz from Nat.succ_mul n sz] at q
    rw [m_pg]
    exact m_pln_in hw hh (by omega) (m_pg_in hw hh hs hg n (by omega))
theorem m_sg_in {sta pr bd wd ht : Nat → Nat} {g : Nat → Option Nat} {n N : Nat} (h : shp sta pr bd wd ht n) (hg : ∀ i p, g i = some p → p < N) (hN : 2 * sta n ≤ N) : ∀ i, i ≤ n → ∀ x p, m_sg sta pr bd wd ht g i x = some p → p < N
  | 0, _ => hg
  | i + 1, hi => by
    have h1 := h.1 i (by omega)
    have h2 := h.2 i (by omega)
    have hl := shp_le h n (i + 1) hi (Nat.le_refl _)
    rw [m_sg]
    exact m_pg_in h2.2.2.1 h2.2.2.2 rfl (m_sg_in h hg hN i (by omega)) _ (by omega)
theorem m_pfit {kk ro wa ha n : Nat} (h1 : 1 ≤ kk) (h2 : kk < 3) (hw : 1 ≤ wa ∧ wa ≤ 4) (hh : 1 ≤ ha ∧ ha ≤ 3) (h : ro + (3 - kk) * (wa * ha) ≤ n) : ro + wa * ha + (3 - (kk + 1)) * ((wa + 1) / 2 * ((ha + 1) / 2)) ≤ n := by
  have hz : ∀ w, w < 5 → ∀ h, h < 4 → 1 ≤ w → 1 ≤ h → (w + 1) / 2 * ((h + 1) / 2) ≤ w * h := by decide +kernel
  have h3 := hz wa (by omega) ha (by omega) hw.1 hh.1
  rcases (show kk = 1 ∨ kk = 2 by omega) with q | q <;> subst q <;> omega

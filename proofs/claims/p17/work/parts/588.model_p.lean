/-! what holds between two calls: the picture -/
def iA (L Rz C : Nat) (bd pr wd ht sta jp jw jh : Nat → Nat) : Prop := (1 ≤ L ∧ L ≤ 8) ∧ (1 ≤ Rz ∧ Rz ≤ 4) ∧ (1 ≤ C ∧ C ≤ 3) ∧ shp sta pr bd wd ht (C * Rz) ∧ sta 0 = 0 ∧ (∀ j, pr j ≤ 4) ∧ (∀ s, s < C * Rz → jp (gSl Rz s) = pr s ∧ jw (gSl Rz s) = wd s ∧ jh (gSl Rz s) = ht s ∧ bd s = m_bnd (gSl Rz s)) ∧ (∀ g, g < 12 → (1 ≤ jp g ∧ jp g ≤ 4) ∧ (1 ≤ jw g ∧ jw g ≤ 4) ∧ (1 ≤ jh g ∧ jh g ≤ 3)) ∧ (∀ j, jp j ≤ 4) ∧ (∀ g, g < 12 → C ≤ g / 4 → jp g = 1 ∧ jw g = 1 ∧ jh g = 1) ∧ sta (C * Rz) ≤ 400 + (C - 1) * (1 + 3 * (Rz - 1))
section IA
variable {L Rz C : Nat} {bd pr wd ht sta jp jw jh : Nat → Nat}
theorem iA_at (h : iA L Rz C bd pr wd ht sta jp jw jh) {a b : Nat} (ha : a < C) (hb : b < Rz) : jp (4 * a + b) = pr (a * Rz + b) ∧ jw (4 * a + b) = wd (a * Rz + b) ∧ jh (4 * a + b) = ht (a * Rz + b) ∧ bd (a * Rz + b) = m_bnd (4 * a + b) := by
  have := h.2.2.2.2.2.2.1 (a * Rz + b) (m_in ha hb)
  rw [gSl_at hb] at this
  exact this
theorem m_bnd_at {a b : Nat} (hb : b < 4) : m_bnd (4 * a + b) = if b = 0 then 1 else 3 := by
  unfold m_bnd
  rw [show (4 * a + b) % 4 = b by omega]
theorem row_le (h : iA L Rz C bd pr wd ht sta jp jw jh) {a : Nat} (ha : a < C) : ∀ r, r ≤ Rz → sta (a * Rz + r) ≤ sta (a * Rz) + (if r = 0 then 0 else (1 + 3 * (r - 1)) * 48)
  | 0, _ => by rw [if_pos rfl]; exact Nat.le_refl _
  | r + 1, hr => by
    have ih := row_le h ha r (by omega)
    have hs : a * Rz + r < C * Rz := m_in ha (by omega)
    have h1 := h.2.2.2.1.1 _ hs
    have h2 := h.2.2.2.1.2 _ hs
    have h3 := (iA_at h ha (show r < Rz by omega)).2.2.2
    rw [m_bnd_at (by have := h.2.1.2; omega)] at h3
    have e1 : wd (a * Rz + r) * ht (a * Rz + r) ≤ 4 * 3 := Nat.mul_le_mul h2.2.2.1.2 h2.2.2.2.2
    have e2 : pr (a * Rz + r) * bd (a * Rz + r) * (wd (a * Rz + r) * ht (a * Rz + r)) ≤ 4 * bd (a * Rz + r) * (4 * 3) := Nat.mul_le_mul (Nat.mul_le_mul_right _ h2.1.2) e1
    rw [← Nat.add_assoc, h1, if_neg (by omega)]
    by_cases c : r = 0
    · subst c
      rw [if_pos rfl] at h3 ih
      omega
    · rw [if_neg c] at h3 ih
      omega
theorem tot_le (h : iA L Rz C bd pr wd ht sta jp jw jh) : ∀ a, a ≤ C → sta (a * Rz) ≤ a * ((1 + 3 * (Rz - 1)) * 48)
  | 0, _ => by rw [Nat.zero_mul, Nat.zero_mul, h.2.2.2.2.1]; exact Nat.le_refl _
  | a + 1, ha => by
    have ih := tot_le h a (by omega)
    have h1 := row_le h (show a < C by omega) Rz (Nat.le_refl _)
    rw [if_neg (by have := h.2.1.1; omega)] at h1
    rw [show (a + 1) * Rz = a * Rz + Rz from Nat.succ_mul _ _, show (a + 1) * ((1 + 3 * (Rz - 1)) * 48) = a * ((1 + 3 * (Rz - 1)) * 48) + (1 + 3 * (Rz - 1)) * 48 from Nat.succ_mul _ _]
    omega
theorem most_of {n : Nat} (hR : 1 ≤ Rz ∧ Rz ≤ 4) (hC : 1 ≤ C ∧ C ≤ 3) (h1 : n ≤ C * ((1 + 3 * (Rz - 1)) * 48)) (h2 : n ≤ 400 + (C - 1) * (1 + 3 * (Rz - 1))) : n ≤ m_most Rz := by
  unfold m_most
  rcases (show C = 1 ∨ C = 2 ∨ C = 3 by omega) with c | c | c <;> subst c <;> omega
theorem iA_most (h : iA L Rz C bd pr wd ht sta jp jw jh) : sta (C * Rz) ≤ m_most Rz := most_of h.2.1 h.2.2.1 (tot_le h C (Nat.le_refl _)) h.2.2.2.2.2.2.2.2.2.2
/-- how many blocks there are before a slot, as the reference reckons -/
theorem bef_row (h : iA L Rz C bd pr wd ht sta jp jw jh) {a : Nat} (ha : a < C) (h0 : m_bef jp jw jh C Rz (4 * a) = sta (a * Rz)) : ∀ r, r ≤ 4 → m_bef jp jw jh C Rz (4 * a + r) = sta (a * Rz + min r Rz)
  | 0, _ => by rw [Nat.zero_min]; exact h0
  | r + 1, hr => by
    have ih := bef_row h ha h0 r (by omega)
    rw [← Nat.add_assoc, m_bef, ih, show (4 * a + r) / 4 = a by omega, show (4 * a + r) % 4 = r by omega]
    by_cases c : r < Rz
    · have hs : a * Rz + r < C * Rz := m_in ha c
      obtain ⟨k1, k2, k3, k4⟩ := iA_at h ha c
      rw [if_pos ⟨ha, c⟩, Nat.min_eq_left (by omega), Nat.min_eq_left (by omega), ← Nat.add_assoc, h.2.2.2.1.1 _ hs, k1, k2, k3, ← k4, Nat.mul_assoc (pr (a * Rz + r) * bd (a * Rz + r))]
    · rw [if_neg (fun q => c q.2), Nat.min_eq_right (by omega), Nat.min_eq_right (by omega), Nat.add_zero]
theorem bef_c (h : iA L Rz C bd pr wd ht sta jp jw jh) : ∀ a, a ≤ C → m_bef jp jw jh C Rz (4 * a) = sta (a * Rz)
  | 0, _ => by rw [Nat.zero_mul, h.2.2.2.2.1]; rfl
  | a + 1, ha => by
    have := bef_row h (show a < C by omega) (bef_c h a (by omega)) 4 (Nat.le_refl _)
    rw [show 4 * (a + 1) = 4 * a + 4 by omega, this, Nat.min_eq_right h.2.1.2, show (a + 1) * Rz = a * Rz + Rz from Nat.succ_mul _ _]
theorem bef_at (h : iA L Rz C bd pr wd ht sta jp jw jh) {a b : Nat} (ha : a < C) (hb : b < Rz) : m_bef jp jw jh C Rz (4 * a + b) = sta (a * Rz + b) := by
  have := bef_row h ha (bef_c h a (by omega)) b (by have := h.2.1.2; omega)
  rw [Nat.min_eq_left (by omega)] at this
  exact this
theorem bef_stay {C Rz : Nat} : ∀ k m, C * 4 ≤ k → m_bef jp jw jh C Rz (k + m) = m_bef jp jw jh C Rz k
  | k, 0, _ => rfl
  | k, m + 1, hk => by
    rw [← Nat.add_assoc, m_bef, if_neg (fun q => by have := q.1; omega), Nat.add_zero, bef_stay k m hk]
theorem bef_12 (h : iA L Rz C bd pr wd ht sta jp jw jh) : m_bef jp jw jh C Rz 12 = sta (C * Rz) := by
  have h1 := bef_c h C (Nat.le_refl _)
  have h2 := bef_stay (jp := jp) (jw := jw) (jh := jh) (C := C) (Rz := Rz) (4 * C) (12 - 4 * C) (by omega)
  rw [show 4 * C + (12 - 4 * C) = 12 by have := h.2.2.1.2; omega] at h2
  rw [h2, h1]
end IA

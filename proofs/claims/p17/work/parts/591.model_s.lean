/-! starts of slots when one slot's shape changes -/
theorem st_of {sta pr bd wd ht : Nat → Nat} {n : Nat} (h : shp sta pr bd wd ht n) (h0 : sta 0 = 0) : ∀ k, k ≤ n → sta k = m_st pr bd wd ht k
  | 0, _ => h0
  | k + 1, hk => by rw [m_st, h.1 k (by omega), st_of h h0 k (by omega)]
theorem st_eq {pr bd wd ht pr2 bd2 wd2 ht2 : Nat → Nat} : ∀ n, (∀ k, k < n → pr2 k = pr k ∧ bd2 k = bd k ∧ wd2 k = wd k ∧ ht2 k = ht k) → m_st pr2 bd2 wd2 ht2 n = m_st pr bd wd ht n
  | 0, _ => rfl
  | n + 1, h => by
    obtain ⟨a1, a2, a3, a4⟩ := h n (by omega)
    rw [m_st, m_st, st_eq n (fun k hk => h k (by omega)), a1, a2, a3, a4]
theorem st_up {pr bd wd ht : Nat → Nat} {s p w e : Nat} : ∀ n, s < n → m_st (va_up pr s p) bd (va_up wd s w) (va_up ht s e) n + pr s * bd s * (wd s * ht s) = m_st pr bd wd ht n + p * bd s * (w * e)
  | 0, h => absurd h (Nat.not_lt_zero _)
  | n + 1, h => by
    rw [m_st, m_st]
    by_cases c : n = s
    · subst c
      rw [st_eq (pr := pr) (bd := bd) (wd := wd) (ht := ht) n (fun k hk => ⟨va_up_ne _ _ (by omega), rfl, va_up_ne _ _ (by omega), va_up_ne _ _ (by omega)⟩), va_up_self, va_up_self, va_up_self]
      omega
    · have ih := st_up (pr := pr) (bd := bd) (wd := wd) (ht := ht) (s := s) (p := p) (w := w) (e := e) n (by omega)
      rw [va_up_ne _ _ c, va_up_ne _ _ c, va_up_ne _ _ c]
      omega
theorem starts_le {pr bd wd ht sta : Nat → Nat} {n k : Nat} (h : k ≤ n) : m_starts pr bd wd ht sta n k = m_st pr bd wd ht k := by unfold m_starts; rw [if_pos h]
theorem shp_starts {pr bd wd ht sta : Nat → Nat} {n : Nat} (h : ∀ k, k < n → (1 ≤ pr k ∧ pr k ≤ 4) ∧ (1 ≤ bd k ∧ bd k ≤ 3) ∧ (1 ≤ wd k ∧ wd k ≤ 4) ∧ (1 ≤ ht k ∧ ht k ≤ 3)) : shp (m_starts pr bd wd ht sta n) pr bd wd ht n :=
  ⟨fun k hk => by rw [starts_le (show k + 1 ≤ n by omega), starts_le (show k ≤ n by omega), m_st], h⟩
/-! the picture behind a grid -/
section GR
variable {L Rz C : Nat} {bd pr wd ht sta jp jw jh : Nat → Nat} {a b c0 d0 e0 : Nat}
theorem gr_le (h : iA L Rz C bd pr wd ht sta jp jw jh) {k : Nat} (hk : k ≤ a * Rz + b) (hs : a * Rz + b < C * Rz) : m_starts (va_up pr (a * Rz + b) c0) bd (va_up wd (a * Rz + b) d0) (va_up ht (a * Rz + b) e0) sta (C * Rz) k = sta k := by
  rw [starts_le (show k ≤ C * Rz by omega), st_of h.2.2.2.1 h.2.2.2.2.1 k (by omega)]
  exact st_eq k (fun j hj => ⟨va_up_ne _ _ (by omega), rfl, va_up_ne _ _ (by omega), va_up_ne _ _ (by omega)⟩)
theorem gr_gt (h : iA L Rz C bd pr wd ht sta jp jw jh) {k : Nat} (hk : a * Rz + b < k) (hn : k ≤ C * Rz) : m_starts (va_up pr (a * Rz + b) c0) bd (va_up wd (a * Rz + b) d0) (va_up ht (a * Rz + b) e0) sta (C * Rz) k + pr (a * Rz + b) * bd (a * Rz + b) * (wd (a * Rz + b) * ht (a * Rz + b)) = sta k + c0 * bd (a * Rz + b) * (d0 * e0) := by
  rw [starts_le hn, st_of h.2.2.2.1 h.2.2.2.2.1 k hn]
  exact st_up k hk
theorem iA_in (h : iA L Rz C bd pr wd ht sta jp jw jh) {s : Nat} (hs : s < C * Rz) : sta s + pr s * bd s * (wd s * ht s) ≤ sta (C * Rz) := by
  rw [← h.2.2.2.1.1 s hs]
  exact shp_le h.2.2.2.1 _ _ (by omega) (Nat.le_refl _)
theorem iA_grid (h : iA L Rz C bd pr wd ht sta jp jw jh) (ha : a < C) (hb : b < Rz) (q1 : 1 ≤ c0 ∧ c0 ≤ 4) (q2 : 1 ≤ d0 ∧ d0 ≤ 4) (q3 : 1 ≤ e0 ∧ e0 ≤ 3) (hbig : sta (C * Rz) - (pr (a * Rz + b) * bd (a * Rz + b) * (wd (a * Rz + b) * ht (a * Rz + b))) + (c0 * bd (a * Rz + b) * d0 * e0) ≤ 400) :
    iA L Rz C bd (va_up pr (a * Rz + b) c0) (va_up wd (a * Rz + b) d0) (va_up ht (a * Rz + b) e0) (m_starts (va_up pr (a * Rz + b) c0) bd (va_up wd (a * Rz + b) d0) (va_up ht (a * Rz + b) e0) sta (C * Rz)) (va_up jp (4 * a + b) c0) (va_up jw (4 * a + b) d0) (va_up jh (4 * a + b) e0) := by
  have hs : a * Rz + b < C * Rz := m_in ha hb
  have hgt := gr_gt (c0 := c0) (d0 := d0) (e0 := e0) h hs (Nat.le_refl _)
  have hin := iA_in h hs
  obtain ⟨hL, hR, hC, hsh, h0, hp4, hrel, h12, hj4, hout, htot⟩ := h
  have hg : gSl Rz (a * Rz + b) = 4 * a + b := gSl_at hb
  have up : ∀ {f : Nat → Nat} {i v lo hi k : Nat}, (lo ≤ v ∧ v ≤ hi) → (lo ≤ f k ∧ f k ≤ hi) → lo ≤ va_up f i v k ∧ va_up f i v k ≤ hi := fun {f i v lo hi k} hv hf => by
    unfold va_up
    split
    · exact hv
    · exact hf
  refine ⟨hL, hR, hC, shp_starts (fun k hk => ?_), ?_, m_up_le9 hp4 q1.2, fun s hs2 => ?_, fun g hg2 => ?_, m_up_le9 hj4 q1.2, fun g hg2 hgC => ?_, ?_⟩
  · obtain ⟨k1, k2, k3, k4⟩ := hsh.2 k hk
    exact ⟨up q1 k1, k2, up q2 k3, up q3 k4⟩
  · rw [starts_le (Nat.zero_le _)]; rfl
  · by_cases c : s = a * Rz + b
    · subst c
      obtain ⟨k1, k2, k3, k4⟩ := hrel _ hs2
      rw [hg] at k4 ⊢
      exact ⟨by rw [va_up_self, va_up_self], by rw [va_up_self, va_up_self], by rw [va_up_self, va_up_self], k4⟩
    · obtain ⟨k1, k2, k3, k4⟩ := hrel _ hs2
      have hne : ¬ gSl Rz s = 4 * a + b := fun q => c (gSl_inj hR (q.trans hg.symm))
      exact ⟨by rw [va_up_ne _ _ hne, va_up_ne _ _ c]; exact k1, by rw [va_up_ne _ _ hne, va_up_ne _ _ c]; exact k2, by rw [va_up_ne _ _ hne, va_up_ne _ _ c]; exact k3, k4⟩
  · obtain ⟨k1, k2, k3⟩ := h12 g hg2
    exact ⟨up q1 k1, up q2 k2, up q3 k3⟩
  · have hne : ¬ g = 4 * a + b := fun q => by have := hR.2; omega
    rw [va_up_ne _ _ hne, va_up_ne _ _ hne, va_up_ne _ _ hne]
    exact hout g hg2 hgC
  · have e1 : c0 * bd (a * Rz + b) * d0 * e0 = c0 * bd (a * Rz + b) * (d0 * e0) := Nat.mul_assoc _ _ _
    omega
end GR
/-! the picture behind a component more -/
section CM
variable {L Rz C : Nat} {bd pr wd ht sta jp jw jh : Nat → Nat}
theorem put_lo {α : Type} {v f : Nat → α} {k n j : Nat} (h : j < k) : m_put v k n f j = f j := by unfold m_put; rw [if_neg (by omega)]
theorem put_at {α : Type} {v f : Nat → α} {k n j : Nat} (h : j < n) : m_put v k n f (k + j) = v j := by unfold m_put; rw [if_pos (by omega), Nat.add_sub_cancel_left]
theorem cm_lo (h : iA L Rz C bd pr wd ht sta jp jw jh) {k : Nat} (hk : k ≤ C * Rz) : m_starts (m_put m_one (C * Rz) Rz pr) (m_put m_b13 (C * Rz) Rz bd) (m_put m_one (C * Rz) Rz wd) (m_put m_one (C * Rz) Rz ht) sta ((C + 1) * Rz) k = sta k := by
  have e : (C + 1) * Rz = C * Rz + Rz := Nat.succ_mul _ _
  rw [starts_le (by omega), st_of h.2.2.2.1 h.2.2.2.2.1 k hk]
  exact st_eq k (fun j hj => ⟨put_lo (by omega), put_lo (by omega), put_lo (by omega), put_lo (by omega)⟩)
theorem cm_hi (h : iA L Rz C bd pr wd ht sta jp jw jh) : ∀ r, 1 ≤ r → r ≤ Rz → m_starts (m_put m_one (C * Rz) Rz pr) (m_put m_b13 (C * Rz) Rz bd) (m_put m_one (C * Rz) Rz wd) (m_put m_one (C * Rz) Rz ht) sta ((C + 1) * Rz) (C * Rz + r) = sta (C * Rz) + (1 + 3 * (r - 1))
  | 0, h1, _ => absurd h1 (by omega)
  | r + 1, _, hr => by
    have e : (C + 1) * Rz = C * Rz + Rz := Nat.succ_mul _ _
    have e2 : m_starts (m_put m_one (C * Rz) Rz pr) (m_put m_b13 (C * Rz) Rz bd) (m_put m_one (C * Rz) Rz wd) (m_put m_one (C * Rz) Rz ht) sta ((C + 1) * Rz) (C * Rz + (r + 1)) = m_starts (m_put m_one (C * Rz) Rz pr) (m_put m_b13 (C * Rz) Rz bd) (m_put m_one (C * Rz) Rz wd) (m_put m_one (C * Rz) Rz ht) sta ((C + 1) * Rz) (C * Rz + r) + m_b13 r := by
      rw [starts_le (by omega), starts_le (by omega), ← Nat.add_assoc, m_st, put_at (by omega), put_at (by omega), put_at (by omega), put_at (by omega)]
      show _ + 1 * m_b13 r * (1 * 1) = _
      omega
    rw [e2]
    by_cases c : r = 0
    · subst c
      rw [show C * Rz + 0 = C * Rz from rfl, cm_lo h (Nat.le_refl _)]
      unfold m_b13
      rw [if_pos rfl]
    · rw [cm_hi h r (by omega) (by omega)]
      unfold m_b13
      rw [if_neg c]
      omega
theorem iA_comp (h : iA L Rz C bd pr wd ht sta jp jw jh) (hC3 : C < 3) : iA L Rz (C + 1) (m_put m_b13 (C * Rz) Rz bd) (m_put m_one (C * Rz) Rz pr) (m_put m_one (C * Rz) Rz wd) (m_put m_one (C * Rz) Rz ht) (m_starts (m_put m_one (C * Rz) Rz pr) (m_put m_b13 (C * Rz) Rz bd) (m_put m_one (C * Rz) Rz wd) (m_put m_one (C * Rz) Rz ht) sta ((C + 1) * Rz)) jp jw jh := by
  have e : (C + 1) * Rz = C * Rz + Rz := Nat.succ_mul _ _
  have htop := cm_hi h Rz h.2.1.1 (Nat.le_refl _)
  obtain ⟨hL, hR, hC, hsh, h0, hp4, hrel, h12, hj4, hout, htot⟩ := h
  have hb : ∀ r, 1 ≤ m_b13 r ∧ m_b13 r ≤ 3 := fun r => by unfold m_b13; split <;> omega
  refine ⟨hL, hR, ⟨by omega, by omega⟩, shp_starts (fun k hk => ?_), ?_, m_put_le (fun _ => by show 1 ≤ 4; omega) hp4, fun s hs => ?_, h12, hj4, fun g hg hgC => hout g hg (by omega), ?_⟩
  · by_cases c : k < C * Rz
    · rw [put_lo c, put_lo c, put_lo c, put_lo c]
      exact hsh.2 k c
    · obtain ⟨r, hr⟩ : ∃ r, k = C * Rz + r := ⟨k - C * Rz, by omega⟩
      subst hr
      rw [put_at (by omega), put_at (by omega), put_at (by omega), put_at (by omega)]
      exact ⟨⟨by show 1 ≤ 1; omega, by show 1 ≤ 4; omega⟩, hb r, ⟨by show 1 ≤ 1; omega, by show 1 ≤ 4; omega⟩, ⟨by show 1 ≤ 1; omega, by show 1 ≤ 3; omega⟩⟩
  · rw [starts_le (Nat.zero_le _)]; rfl
  · by_cases c : s < C * Rz
    · rw [put_lo c, put_lo c, put_lo c, put_lo c]
      exact hrel s c
    · obtain ⟨r, hr⟩ : ∃ r, s = C * Rz + r := ⟨s - C * Rz, by omega⟩
      subst hr
      have hr2 : r < Rz := by omega
      rw [put_at hr2, put_at hr2, put_at hr2, put_at hr2, gSl_at hr2]
      obtain ⟨k1, k2, k3⟩ := hout (4 * C + r) (by omega) (by omega)
      refine ⟨k1, k2, k3, ?_⟩
      rw [m_bnd_at (by omega)]
      rfl
  · rw [← e] at htop
    rw [htop]
    have e3 : (C + 1 - 1) * (1 + 3 * (Rz - 1)) = (C - 1) * (1 + 3 * (Rz - 1)) + (1 + 3 * (Rz - 1)) := by
      rw [show C + 1 - 1 = (C - 1) + 1 by omega, Nat.succ_mul]
    omega
end CM

/-! class and reference: the bits that are written -/
def Bs (ms : Bool) (u : wS) (s : mS) : Prop := u.1 = 0 ∧ s.1 = 0 ∧ u.2.2.2.2 = s.2.2.1 ∧ u.2.2.2.1 = s.2.2.2.1 ∧ s.2.2.2.2.2.1 = min u.2.2.1 6008 ∧ (1 ≤ u.2.2.2.2 ∧ u.2.2.2.2 ≤ 8) ∧ u.2.2.2.1 < 256 ∧ u.2.2.2.1 % 2 ^ u.2.2.2.2 = 0 ∧ (s.2.2.2.2.1 = 255 → u.2.2.2.2 ≤ 7) ∧ (ms = false → ∀ j, j < u.2.2.1 → j < 6000 → u.2.1 j = s.2.2.2.2.2.2 j)
theorem or_pow {c k : Nat} {d : Bool} (h : c % 2 ^ (k + 1) = 0) : c ||| b2n d * 2 ^ k = c + b2n d * 2 ^ k := by
  have h1 : b2n d * 2 ^ k < 2 ^ (k + 1) := by
    rw [Nat.pow_succ]
    have := b2n_le d
    have h0 : 0 < 2 ^ k := Nat.pow_pos (by omega)
    have : b2n d * 2 ^ k ≤ 1 * 2 ^ k := Nat.mul_le_mul_right _ this
    omega
  have h2 := Nat.shiftLeft_add_eq_or_of_lt h1 (c / 2 ^ (k + 1))
  have h3 : (c / 2 ^ (k + 1)) <<< (k + 1) = c := by
    rw [Nat.shiftLeft_eq]
    have := Nat.div_add_mod c (2 ^ (k + 1))
    rw [h, Nat.add_zero, Nat.mul_comm] at this
    exact this
  rw [h3] at h2
  exact h2.symm
theorem wc_mod {c k : Nat} {d : Bool} (h : c % 2 ^ (k + 1) = 0) : m_wc c (k + 1) d % 2 ^ k = 0 := by
  unfold m_wc
  rw [Nat.add_sub_cancel, or_pow h]
  have h1 : c % 2 ^ k = 0 := by
    have h2 : 2 ^ k ∣ 2 ^ (k + 1) := Nat.pow_dvd_pow 2 (by omega)
    exact Nat.mod_eq_zero_of_dvd (Nat.dvd_trans h2 (Nat.dvd_of_mod_eq_zero h))
  rw [Nat.add_mod, h1, Nat.mul_mod_left]
  rfl
set_option maxHeartbeats 4000000 in
set_option maxRecDepth 100000 in
theorem Bs_bit {ms : Bool} {u : wS} {s : mS} (h : Bs ms u s) (d : Bool) : Bs ms (bitW ms u d).2 (r_put s d) := by
  obtain ⟨h1, h2, h3, h4, h5, h6, h7, h8, h9, h10⟩ := h
  have hw := m_wc_lt (d := d) h7 h6.2
  show Bs ms (u.1, m_wb ms u.2.1 u.2.2.1 u.2.2.2.1 u.2.2.2.2 d) (r_put s d)
  unfold m_wb r_put
  rw [← h3, ← h4]
  by_cases e : u.2.2.2.2 - 1 = 0
  · rw [if_pos e, if_pos e]
    have hl := m_rl_le (m_wc u.2.2.2.1 u.2.2.2.2 d)
    refine ⟨h1, h2, rfl, rfl, ?_, ?_, by show 0 < 256; omega, Nat.zero_mod _, ?_, ?_⟩
    · show (r_push s _).2.2.2.2.2.1 = min (u.2.2.1 + 1) 6008
      unfold r_push
      show (if s.2.2.2.2.2.1 < 6008 then s.2.2.2.2.2.1 + 1 else s.2.2.2.2.2.1) = _
      rw [h5]
      split <;> omega
    · show 1 ≤ m_rl _ ∧ m_rl _ ≤ 8
      omega
    · intro q
      have q : m_wc u.2.2.2.1 u.2.2.2.2 d = 255 := q
      show m_rl _ ≤ 7
      unfold m_rl
      rw [if_pos q]
      exact Nat.le_refl _
    · intro hm j hj hj2
      have hj : j < u.2.2.1 + 1 := hj
      show (if ms = false ∧ u.2.2.1 < 6000 then va_up u.2.1 u.2.2.1 (m_wc u.2.2.2.1 u.2.2.2.2 d) else u.2.1) j = (if s.2.2.2.2.2.1 < 6008 then va_up s.2.2.2.2.2.2 s.2.2.2.2.2.1 (m_wc u.2.2.2.1 u.2.2.2.2 d) else s.2.2.2.2.2.2) j
      by_cases q : u.2.2.1 < 6000
      · have e5 : s.2.2.2.2.2.1 = u.2.2.1 := by omega
        rw [if_pos ⟨hm, q⟩, if_pos (by omega), e5]
        by_cases q2 : j = u.2.2.1
        · rw [q2, va_up_self, va_up_self]
        · rw [va_up_ne _ _ q2, va_up_ne _ _ q2]
          exact h10 hm j (by omega) hj2
      · rw [if_neg (fun z => q z.2)]
        by_cases q3 : s.2.2.2.2.2.1 < 6008
        · rw [if_pos q3, va_up_ne _ _ (by omega)]
          exact h10 hm j (by omega) hj2
        · rw [if_neg q3]
          exact h10 hm j (by omega) hj2
  · rw [if_neg e, if_neg e]
    obtain ⟨k, ek⟩ : ∃ k, u.2.2.2.2 = k + 1 := ⟨u.2.2.2.2 - 1, by omega⟩
    refine ⟨h1, h2, rfl, rfl, h5, ?_, hw, ?_, ?_, h10⟩
    · show 1 ≤ u.2.2.2.2 - 1 ∧ u.2.2.2.2 - 1 ≤ 8
      omega
    · show m_wc u.2.2.2.1 u.2.2.2.2 d % 2 ^ (u.2.2.2.2 - 1) = 0
      rw [ek, Nat.add_sub_cancel]
      rw [ek] at h8
      exact wc_mod h8
    · intro q
      have q : s.2.2.2.2.1 = 255 := q
      show u.2.2.2.2 - 1 ≤ 7
      omega
/-- the state between two heads -/
def Be (ms : Bool) (u : wS) (s : mS) : Prop := u.1 = 0 ∧ s.1 = 0 ∧ u.2.2.2.2 = 8 ∧ u.2.2.2.1 = 0 ∧ s.2.2.2.2.2.1 = min u.2.2.1 6008 ∧ (ms = false → ∀ j, j < u.2.2.1 → j < 6000 → u.2.1 j = s.2.2.2.2.2.2 j)
theorem Be_beg {ms : Bool} {u : wS} {s : mS} (h : Be ms u s) : Bs ms u (r_beg false s) := by
  obtain ⟨h1, h2, h3, h4, h5, h6⟩ := h
  refine ⟨h1, h2, ?_, h4, h5, by omega, by omega, by rw [h4]; exact Nat.zero_mod _, ?_, h6⟩
  · rw [h3]; rfl
  · intro q
    have q : (0 : Nat) = 255 := q
    omega
theorem t_wend_c {ms : Bool} : ∀ (n : Nat) (fl : Nat) (row : Nat → Nat) (sz cu fr : Nat), 1 ≤ fr → fr ≤ 7 → fr ≤ n → ¬ cu = 255 → t_wend ms n ((fl, row, sz, cu, fr) : wS) = ((fl, (if ms = false ∧ sz < 6000 then va_up row sz cu else row), sz + 1, 0, 8) : wS)
  | 0, _, _, _, _, fr, h1, _, h3, _ => absurd h3 (by omega)
  | n + 1, fl, row, sz, cu, fr, h1, h2, h3, hc => by
    rw [t_wend, if_pos (show fr < 8 by omega)]
    have e0 : m_wc cu fr false = cu := by
      unfold m_wc
      show cu ||| 0 * _ = cu
      rw [Nat.zero_mul, Nat.or_zero]
    have e1 : (bitW ms ((fl, row, sz, cu, fr) : wS) false).2 = ((fl, m_wb ms row sz cu fr false) : wS) := rfl
    rw [e1]
    unfold m_wb
    rw [e0]
    by_cases e : fr - 1 = 0
    · rw [if_pos e, if_neg hc]
      exact t_wend_stop (Or.inr (by show 8 ≤ 8; omega))
    · rw [if_neg e]
      exact t_wend_c n fl row sz cu (fr - 1) (by omega) (by omega) (by omega) hc
set_option maxHeartbeats 4000000 in
set_option maxRecDepth 100000 in
theorem Bs_end {ms : Bool} {u : wS} {s : mS} (h : Bs ms u s) : Be ms (t_wend ms 8 u) (r_fi s) := by
  obtain ⟨h1, h2, h3, h4, h5, h6, h7, h8, h9, h10⟩ := h
  by_cases e : u.2.2.2.2 = 8
  · rw [t_wend_stop (Or.inr (by omega))]
    have e1 : r_f1 s = s := by
      unfold r_f1
      rw [if_neg (fun q => by rcases q with q | q; have := h9 q; omega; omega)]
    have e2 : r_fi s = s := by
      unfold r_fi
      rw [e1, if_neg (fun q => by have := h9 q; omega)]
    rw [e2]
    refine ⟨h1, h2, e, ?_, h5, h10⟩
    rw [e] at h8
    have : u.2.2.2.1 % 256 = 0 := h8
    omega
  · have hc : ¬ u.2.2.2.1 = 255 := by
      intro q
      rw [q] at h8
      have h9 : 2 ^ 1 ∣ 2 ^ u.2.2.2.2 := Nat.pow_dvd_pow 2 h6.1
      have := Nat.dvd_trans h9 (Nat.dvd_of_mod_eq_zero h8)
      revert this
      decide
    have e1 : t_wend ms 8 u = ((u.1, (if ms = false ∧ u.2.2.1 < 6000 then va_up u.2.1 u.2.2.1 u.2.2.2.1 else u.2.1), u.2.2.1 + 1, 0, 8) : wS) := t_wend_c 8 u.1 u.2.1 u.2.2.1 u.2.2.2.1 u.2.2.2.2 h6.1 (by omega) (by omega) hc
    have e2 : r_f1 s = r_push s s.2.2.2.1 := by
      unfold r_f1
      rw [if_pos (Or.inr (by omega))]
    have e3 : r_fi s = r_push s s.2.2.2.1 := by
      unfold r_fi
      rw [e2, if_neg (show ¬ (r_push s s.2.2.2.1).2.2.2.2.1 = 255 from by show ¬ s.2.2.2.1 = 255; rw [← h4]; exact hc)]
    rw [e1, e3]
    refine ⟨h1, h2, rfl, rfl, ?_, ?_⟩
    · show (if s.2.2.2.2.2.1 < 6008 then s.2.2.2.2.2.1 + 1 else s.2.2.2.2.2.1) = min (u.2.2.1 + 1) 6008
      rw [h5]
      split <;> omega
    · intro hm j hj hj2
      have hj : j < u.2.2.1 + 1 := hj
      show (if ms = false ∧ u.2.2.1 < 6000 then va_up u.2.1 u.2.2.1 u.2.2.2.1 else u.2.1) j = (if s.2.2.2.2.2.1 < 6008 then va_up s.2.2.2.2.2.2 s.2.2.2.2.2.1 s.2.2.2.1 else s.2.2.2.2.2.2) j
      rw [← h4]
      by_cases q : u.2.2.1 < 6000
      · have e5 : s.2.2.2.2.2.1 = u.2.2.1 := by omega
        rw [if_pos ⟨hm, q⟩, if_pos (by omega), e5]
        by_cases q2 : j = u.2.2.1
        · rw [q2, va_up_self, va_up_self]
        · rw [va_up_ne _ _ q2, va_up_ne _ _ q2]
          exact h10 hm j (by omega) hj2
      · rw [if_neg (fun z => q z.2)]
        by_cases q3 : s.2.2.2.2.2.1 < 6008
        · rw [if_pos q3, va_up_ne _ _ (by omega)]
          exact h10 hm j (by omega) hj2
        · rw [if_neg q3]
          exact h10 hm j (by omega) hj2
theorem r_fin_W {f : Nat → Nat} {n : Nat} {s : mS} : r_fin false f n s = r_fi s := by unfold r_fin; rw [if_neg (by decide)]
theorem bitM_W {f : Nat → Nat} {n : Nat} {s : mS} {d : Bool} : bitM false f n s d = (d, r_put s d) := by unfold bitM; rw [if_neg (by decide)]
/-- so many zeros -/
def zeW (ms : Bool) : Nat → wS → wS
  | 0, u => u
  | k + 1, u => zeW ms k (bitW ms u false).2
def zeM : Nat → mS → mS
  | 0, s => s
  | k + 1, s => zeM k (r_put s false)
theorem Bs_z {ms : Bool} : ∀ (k : Nat) {u : wS} {s : mS}, Bs ms u s → Bs ms (zeW ms k u) (zeM k s)
  | 0, _, _, h => h
  | k + 1, _, _, h => Bs_z k (Bs_bit h false)
theorem r_put_fl {s : mS} {d : Bool} : (r_put s d).1 = s.1 := by unfold r_put; split <;> rfl
theorem t_lp_c {ms : Bool} {v nd en : Nat} {dn : Nat → Bool} (hd : dn nd = false) (hv : v < en) : ∀ (k lw : Nat) (u : wS), lw + k = v → t_lp (bitW ms) v nd en (en - lw) lw dn u = (v, va_up dn nd true, (bitW ms (zeW ms k u) true).2)
  | 0, lw, u, h => by
    have e : lw = v := by omega
    subst e
    rw [show en - lw = (en - (lw + 1)) + 1 by omega, t_lp, if_pos ⟨hv, hd⟩]
    have e1 : decide (lw = lw) = true := decide_eq_true rfl
    rw [e1, if_pos (show (bitW ms u true).1 = true from rfl)]
    rfl
  | k + 1, lw, u, h => by
    rw [show en - lw = (en - (lw + 1)) + 1 by omega, t_lp, if_pos ⟨by omega, hd⟩]
    have e1 : decide (v = lw) = false := decide_eq_false (by omega)
    rw [e1, if_neg (show ¬ (bitW ms u false).1 = true from by show ¬ false = true; decide)]
    exact t_lp_c hd hv k (lw + 1) _ (by omega)
theorem t_lp_n {ms : Bool} {v nd en : Nat} {dn : Nat → Bool} (hd : dn nd = false) (hv : en ≤ v) : ∀ (k lw : Nat) (u : wS), lw + k = en → t_lp (bitW ms) v nd en (en - lw) lw dn u = (en, dn, zeW ms k u)
  | 0, lw, u, h => by
    rw [show en - lw = 0 by omega, t_lp, show lw = en by omega]
    rfl
  | k + 1, lw, u, h => by
    rw [show en - lw = (en - (lw + 1)) + 1 by omega, t_lp, if_pos ⟨by omega, hd⟩]
    have e1 : decide (v = lw) = false := decide_eq_false (by omega)
    rw [e1, if_neg (show ¬ (bitW ms u false).1 = true from by show ¬ false = true; decide)]
    exact t_lp_n hd hv k (lw + 1) _ (by omega)
theorem r_lp_c {f : Nat → Nat} {n v nd en : Nat} {dn : Nat → Bool} (hd : dn nd = false) (hv : v < en) : ∀ (k lw : Nat) (s : mS), s.1 = 0 → lw + k = v → r_lp (bitM false f n) false v nd en (en - lw) lw dn s = (v, va_up dn nd true, r_put (zeM k s) true)
  | 0, lw, s, hs, h => by
    have e : lw = v := by omega
    subst e
    rw [show en - lw = (en - (lw + 1)) + 1 by omega, r_lp, if_pos ⟨hv, hd, hs⟩, if_neg (fun q => Bool.noConfusion q.1), bitM_W]
    have e1 : decide (lw = lw) = true := decide_eq_true rfl
    rw [e1, if_pos rfl]
    rfl
  | k + 1, lw, s, hs, h => by
    rw [show en - lw = (en - (lw + 1)) + 1 by omega, r_lp, if_pos ⟨by omega, hd, hs⟩, if_neg (fun q => Bool.noConfusion q.1), bitM_W]
    have e1 : decide (v = lw) = false := decide_eq_false (by omega)
    rw [e1, if_neg (by show ¬ false = true; decide)]
    exact r_lp_c hd hv k (lw + 1) _ (by rw [r_put_fl]; exact hs) (by omega)
theorem r_lp_n {f : Nat → Nat} {n v nd en : Nat} {dn : Nat → Bool} (hd : dn nd = false) (hv : en ≤ v) : ∀ (k lw : Nat) (s : mS), s.1 = 0 → lw + k = en → r_lp (bitM false f n) false v nd en (en - lw) lw dn s = (en, dn, zeM k s)
  | 0, lw, s, _, h => by
    rw [show en - lw = 0 by omega, r_lp, show lw = en by omega]
    rfl
  | k + 1, lw, s, hs, h => by
    rw [show en - lw = (en - (lw + 1)) + 1 by omega, r_lp, if_pos ⟨by omega, hd, hs⟩, if_neg (fun q => Bool.noConfusion q.1), bitM_W]
    have e1 : decide (v = lw) = false := decide_eq_false (by omega)
    rw [e1, if_neg (by show ¬ false = true; decide)]
    exact r_lp_n hd hv k (lw + 1) _ (by rw [r_put_fl]; exact hs) (by omega)
/-- a node of both: what is told of it is the same, and not above its value -/
def ndR (lo : Nat → Nat) (dn : Nat → Bool) (jl : Nat → Nat) (jd : Nat → Bool) (v a b : Nat) : Prop := lo a = jl b ∧ dn a = jd b ∧ lo a ≤ v ∧ (dn a = true → lo a = v)
set_option maxHeartbeats 4000000 in
set_option maxRecDepth 100000 in
theorem nd_rel {ms : Bool} {f : Nat → Nat} {n v a b en en2 low : Nat} {lo jl : Nat → Nat} {dn jd : Nat → Bool} {u : wS} {s : mS} (hn : ndR lo dn jl jd v a b) (hl : low ≤ v) (he : en = en2 ∨ (v < en ∧ v < en2)) (hb : Bs ms u s) :
    (t_lp (bitW ms) v a en (en - max low (lo a)) (max low (lo a)) dn u).1 = (r_lp (bitM false f n) false v b en2 (en2 - max low (jl b)) (max low (jl b)) jd s).1 ∧
    (t_lp (bitW ms) v a en (en - max low (lo a)) (max low (lo a)) dn u).1 ≤ v ∧
    (∀ j, ¬ j = a → (t_lp (bitW ms) v a en (en - max low (lo a)) (max low (lo a)) dn u).2.1 j = dn j) ∧ (∀ j, ¬ j = b → (r_lp (bitM false f n) false v b en2 (en2 - max low (jl b)) (max low (jl b)) jd s).2.1 j = jd j) ∧
    (t_lp (bitW ms) v a en (en - max low (lo a)) (max low (lo a)) dn u).2.1 a = (r_lp (bitM false f n) false v b en2 (en2 - max low (jl b)) (max low (jl b)) jd s).2.1 b ∧
    ((t_lp (bitW ms) v a en (en - max low (lo a)) (max low (lo a)) dn u).2.1 a = true → (t_lp (bitW ms) v a en (en - max low (lo a)) (max low (lo a)) dn u).1 = v) ∧
    (v < en → (t_lp (bitW ms) v a en (en - max low (lo a)) (max low (lo a)) dn u).2.1 a = true) ∧ (en ≤ v → (t_lp (bitW ms) v a en (en - max low (lo a)) (max low (lo a)) dn u).2.1 a = dn a) ∧
    Bs ms (t_lp (bitW ms) v a en (en - max low (lo a)) (max low (lo a)) dn u).2.2 (r_lp (bitM false f n) false v b en2 (en2 - max low (jl b)) (max low (jl b)) jd s).2.2 := by
  obtain ⟨h1, h2, h3, h4⟩ := hn
  rw [← h1]
  have hm : max low (lo a) ≤ v := by omega
  have hs : s.1 = 0 := hb.2.1
  cases hd : dn a with
  | true =>
    have e := h4 hd
    have e2 : max low (lo a) = v := by omega
    rw [t_lp_stop _ (fun q => by rw [hd] at q; exact Bool.noConfusion q.2), r_lp_stop _ (fun q => by rw [← h2, hd] at q; exact Bool.noConfusion q.2.1)]
    exact ⟨rfl, hm, fun _ _ => rfl, fun _ _ => rfl, h2, fun _ => e2, fun _ => hd, fun _ => hd, hb⟩
  | false =>
    have hd2 : jd b = false := by rw [← h2]; exact hd
    by_cases q : v < en
    · have q2 : v < en2 := by omega
      rw [t_lp_c hd q (v - max low (lo a)) _ _ (by omega), r_lp_c hd2 q2 (v - max low (lo a)) _ _ hs (by omega)]
      refine ⟨rfl, Nat.le_refl _, fun j hj => va_up_ne _ _ hj, fun j hj => va_up_ne _ _ hj, ?_, fun _ => rfl, fun _ => by show va_up dn a true a = true; rw [va_up_self], fun z => absurd q (by omega), Bs_bit (Bs_z _ hb) true⟩
      show va_up dn a true a = va_up jd b true b
      rw [va_up_self, va_up_self]
    · have e : en = en2 := by omega
      subst e
      by_cases q3 : max low (lo a) ≤ en
      · rw [t_lp_n hd (by omega) (en - max low (lo a)) _ _ (by omega), r_lp_n hd2 (by omega) (en - max low (lo a)) _ _ hs (by omega)]
        exact ⟨rfl, by show en ≤ v; omega, fun _ _ => rfl, fun _ _ => rfl, h2, fun z => by have z : dn a = true := z; rw [hd] at z; exact Bool.noConfusion z, fun z => absurd z q, fun _ => hd, Bs_z _ hb⟩
      · rw [t_lp_stop _ (fun z => q3 (by have := z.1; omega)), r_lp_stop _ (fun z => q3 (by have := z.1; omega))]
        exact ⟨rfl, hm, fun _ _ => rfl, fun _ _ => rfl, h2, fun z => by have z : dn a = true := z; rw [hd] at z; exact Bool.noConfusion z, fun z => absurd z q, fun _ => hd, hb⟩
set_option maxHeartbeats 4000000 in
set_option maxRecDepth 100000 in
theorem rows_rel {ms : Bool} {f : Nat → Nat} {n en en2 : Nat} {vs vl q qr : Nat → Nat} : ∀ (i low : Nat) (lo jl : Nat → Nat) (dn jd : Nat → Bool) (u : wS) (s : mS),
    (∀ k, k < i → ∀ j, j < i → q k = q j → k = j) → (∀ k, k < i → ∀ j, j < i → qr k = qr j → k = j) → (∀ k, k < i → ndR lo dn jl jd (vl k) (q k) (qr k)) → (∀ k, k < i → vs (q k) = vl k) → (∀ k, k + 1 < i → vl (k + 1) ≤ vl k) → (0 < i → low ≤ vl (i - 1)) → (en = en2 ∨ ∀ k, k < i → vl k < en ∧ vl k < en2) → Bs ms u s →
    (t_rows (bitW ms) vs en q i (low, lo, dn, u)).1 = (r_rows (bitM false f n) false vl qr en2 i (low, jl, jd, s)).1 ∧
    (∀ k, k < i → ndR (t_rows (bitW ms) vs en q i (low, lo, dn, u)).2.1 (t_rows (bitW ms) vs en q i (low, lo, dn, u)).2.2.1 (r_rows (bitM false f n) false vl qr en2 i (low, jl, jd, s)).2.1 (r_rows (bitM false f n) false vl qr en2 i (low, jl, jd, s)).2.2.1 (vl k) (q k) (qr k)) ∧
    (∀ j, (∀ k, k < i → ¬ j = q k) → (t_rows (bitW ms) vs en q i (low, lo, dn, u)).2.1 j = lo j ∧ (t_rows (bitW ms) vs en q i (low, lo, dn, u)).2.2.1 j = dn j) ∧
    (∀ j, (∀ k, k < i → ¬ j = qr k) → (r_rows (bitM false f n) false vl qr en2 i (low, jl, jd, s)).2.1 j = jl j ∧ (r_rows (bitM false f n) false vl qr en2 i (low, jl, jd, s)).2.2.1 j = jd j) ∧
    (0 < i → (vl 0 < en → (t_rows (bitW ms) vs en q i (low, lo, dn, u)).2.2.1 (q 0) = true ∧ (t_rows (bitW ms) vs en q i (low, lo, dn, u)).1 = vl 0) ∧ (en ≤ vl 0 → (t_rows (bitW ms) vs en q i (low, lo, dn, u)).2.2.1 (q 0) = dn (q 0))) ∧
    Bs ms (t_rows (bitW ms) vs en q i (low, lo, dn, u)).2.2.2 (r_rows (bitM false f n) false vl qr en2 i (low, jl, jd, s)).2.2.2
  | 0, low, lo, jl, dn, jd, u, s, _, _, _, _, _, _, _, hb => ⟨rfl, fun k hk => absurd hk (Nat.not_lt_zero _), fun _ _ => ⟨rfl, rfl⟩, fun _ _ => ⟨rfl, rfl⟩, fun h => absurd h (Nat.lt_irrefl 0), hb⟩
  | i + 1, low, lo, jl, dn, jd, u, s, hq, hqr, hn, hv, hm, hl, he, hb => by
    have hni := hn i (by omega)
    have hvi := hv i (by omega)
    have hli : low ≤ vl i := hl (by omega)
    have hei : en = en2 ∨ (vl i < en ∧ vl i < en2) := by
      rcases he with z | z
      · exact Or.inl z
      · exact Or.inr (z i (by omega))
    have hr := nd_rel (ms := ms) (f := f) (n := n) hni hli hei hb
    rw [t_rows, r_rows]
    have et : t_nd (bitW ms) vs en (low, lo, dn, u) (q i) = ((t_lp (bitW ms) (vl i) (q i) en (en - max low (lo (q i))) (max low (lo (q i))) dn u).1, va_up lo (q i) (t_lp (bitW ms) (vl i) (q i) en (en - max low (lo (q i))) (max low (lo (q i))) dn u).1, (t_lp (bitW ms) (vl i) (q i) en (en - max low (lo (q i))) (max low (lo (q i))) dn u).2.1, (t_lp (bitW ms) (vl i) (q i) en (en - max low (lo (q i))) (max low (lo (q i))) dn u).2.2) := by
      unfold t_nd
      rw [hvi]
    have er : r_nd (bitM false f n) false (vl i) (qr i) en2 (low, jl, jd, s) = ((r_lp (bitM false f n) false (vl i) (qr i) en2 (en2 - max low (jl (qr i))) (max low (jl (qr i))) jd s).1, va_up jl (qr i) (r_lp (bitM false f n) false (vl i) (qr i) en2 (en2 - max low (jl (qr i))) (max low (jl (qr i))) jd s).1, (r_lp (bitM false f n) false (vl i) (qr i) en2 (en2 - max low (jl (qr i))) (max low (jl (qr i))) jd s).2.1, (r_lp (bitM false f n) false (vl i) (qr i) en2 (en2 - max low (jl (qr i))) (max low (jl (qr i))) jd s).2.2) := rfl
    rw [et, er]
    generalize t_lp (bitW ms) (vl i) (q i) en (en - max low (lo (q i))) (max low (lo (q i))) dn u = A at hr ⊢
    generalize r_lp (bitM false f n) false (vl i) (qr i) en2 (en2 - max low (jl (qr i))) (max low (jl (qr i))) jd s = B at hr ⊢
    obtain ⟨r1, r2, r3, r4, r5, r6, r7, r8, r9⟩ := hr
    have nq : ∀ k, k < i → ¬ q k = q i := fun k hk z => by have := hq k (by omega) i (by omega) z; omega
    have nqr : ∀ k, k < i → ¬ qr k = qr i := fun k hk z => by have := hqr k (by omega) i (by omega) z; omega
    have ih := rows_rel (ms := ms) (f := f) (n := n) (en := en) (en2 := en2) (vs := vs) (vl := vl) (q := q) (qr := qr) i A.1 (va_up lo (q i) A.1) (va_up jl (qr i) B.1) A.2.1 B.2.1 A.2.2 B.2.2
      (fun k hk j hj => hq k (by omega) j (by omega)) (fun k hk j hj => hqr k (by omega) j (by omega))
      (fun k hk => by
        obtain ⟨z1, z2, z3, z4⟩ := hn k (by omega)
        refine ⟨?_, ?_, ?_, ?_⟩
        · rw [va_up_ne _ _ (nq k hk), va_up_ne _ _ (nqr k hk)]; exact z1
        · rw [r3 _ (nq k hk), r4 _ (nqr k hk)]; exact z2
        · rw [va_up_ne _ _ (nq k hk)]; exact z3
        · rw [va_up_ne _ _ (nq k hk), r3 _ (nq k hk)]; exact z4)
      (fun k hk => hv k (by omega)) (fun k hk => hm k (by omega)) (fun h0 => Nat.le_trans r2 (by have := hm (i - 1) (by omega); rw [show i - 1 + 1 = i by omega] at this; exact this))
      (by rcases he with z | z; exact Or.inl z; exact Or.inr (fun k hk => z k (by omega))) r9
    rw [← r1] at ih
    rw [← r1]
    have hT0 : i = 0 → (t_rows (bitW ms) vs en q i (A.1, va_up lo (q i) A.1, A.2.1, A.2.2)).1 = A.1 := fun z => by subst z; rfl
    generalize t_rows (bitW ms) vs en q i (A.1, va_up lo (q i) A.1, A.2.1, A.2.2) = T at ih hT0 ⊢
    generalize r_rows (bitM false f n) false vl qr en2 i (A.1, va_up jl (qr i) A.1, B.2.1, B.2.2) = R at ih ⊢
    obtain ⟨i1, i2, i3, i4, i5, i6⟩ := ih
    refine ⟨i1, fun k hk => ?_, fun j hj => ?_, fun j hj => ?_, fun _ => ?_, i6⟩
    · by_cases e : k = i
      · subst e
        obtain ⟨z1, z2⟩ := i3 (q k) (fun j hj z => nq j hj z.symm)
        obtain ⟨z3, z4⟩ := i4 (qr k) (fun j hj z => nqr j hj z.symm)
        rw [va_up_self] at z1 z3
        refine ⟨?_, ?_, ?_, ?_⟩
        · rw [z1, z3]
        · rw [z2, z4]; exact r5
        · rw [z1]; exact r2
        · rw [z1, z2]; exact r6
      · exact i2 k (by omega)
    · obtain ⟨z1, z2⟩ := i3 j (fun k hk => hj k (by omega))
      have hji := hj i (by omega)
      rw [z1, z2, va_up_ne _ _ hji, r3 _ hji]
      exact ⟨rfl, rfl⟩
    · obtain ⟨z1, z2⟩ := i4 j (fun k hk => hj k (by omega))
      have hji := hj i (by omega)
      rw [z1, z2, va_up_ne _ _ hji, r4 _ hji]
      exact ⟨rfl, rfl⟩
    · by_cases e : i = 0
      · subst e
        obtain ⟨z1, z2⟩ := i3 (q 0) (fun k hk => absurd hk (Nat.not_lt_zero _))
        refine ⟨fun z => ?_, fun z => ?_⟩
        · rw [z2]
          exact ⟨r7 z, (hT0 rfl).trans (r6 (r7 z))⟩
        · rw [z2]; exact r8 z
      · obtain ⟨z1, z2⟩ := i5 (by omega)
        refine ⟨z1, fun z => ?_⟩
        rw [z2 z, r3 _ (nq 0 (by omega))]

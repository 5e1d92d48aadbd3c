/-! passes and lengths, written by both -/
section EC
variable {β : Type} (bit : β → Bool → Bool × β)
/-- the bits of a number, the highest first, one after the other -/
def emN (step : β → Bool → β) (due : Nat → Bool) : Nat → β → β
  | 0, s => s
  | i + 1, s => emN step due i (step s (due i))
def vaN (due : Nat → Bool) : Nat → Nat → Nat
  | 0, v => v
  | i + 1, v => vaN due i (v * 2 ^ 1 ||| b2n (due i))
theorem t_num_em {step : β → Bool → β} (h : ∀ s d, bit s d = (d, step s d)) {due : Nat → Bool} : ∀ (i v : Nat) (s : β), t_num bit due i v s = (vaN due i v, emN step due i s)
  | 0, _, _ => rfl
  | i + 1, v, s => by
    rw [t_num, h, t_num_em h i]
    rfl
theorem vaN_eq {d1 d2 : Nat → Bool} : ∀ (i v : Nat), (∀ j, j < i → d1 j = d2 j) → vaN d1 i v = vaN d2 i v
  | 0, _, _ => rfl
  | i + 1, v, h => by rw [vaN, vaN, h i (by omega), vaN_eq i _ (fun j hj => h j (by omega))]
theorem emN_eq {step : β → Bool → β} {d1 d2 : Nat → Bool} : ∀ (i : Nat) (s : β), (∀ j, j < i → d1 j = d2 j) → emN step d1 i s = emN step d2 i s
  | 0, _, _ => rfl
  | i + 1, s, h => by rw [emN, emN, h i (by omega), emN_eq i _ (fun j hj => h j (by omega))]
end EC
theorem Bs_emN {ms : Bool} {due : Nat → Bool} : ∀ (i : Nat) {u : wS} {s : mS}, Bs ms u s → Bs ms (emN (fun u d => (bitW ms u d).2) due i u) (emN r_put due i s)
  | 0, _, _, h => h
  | i + 1, _, _, h => Bs_emN i (Bs_bit h _)
theorem bitW_e {ms : Bool} : ∀ (u : wS) (d : Bool), bitW ms u d = (d, (bitW ms u d).2) := fun _ _ => rfl
theorem bitM_e {f : Nat → Nat} {n : Nat} : ∀ (s : mS) (d : Bool), bitM false f n s d = (d, r_put s d) := fun _ _ => bitM_W
theorem m_dv_due {m k : Nat} (hm : m < 2 ^ 31) (hk : k < 31) : m_dv (nI m) k = m_due m k := by
  unfold m_dv m_due
  rw [pk_shrN hm _ k (s_l k (by omega)), nx_and]
  by_cases h : m / 2 ^ k &&& 1 = 1
  · rw [decide_eq_true h, h, decide_eq_true rfl]
  · rw [decide_eq_false h, decide_eq_false]
    intro q
    apply h
    have h1 : m / 2 ^ k &&& 1 < 2 ^ 31 := Nat.lt_of_le_of_lt Nat.and_le_right (by omega)
    have h2 := congrArg Int32.toInt q
    rw [nI_toI9 h1, nI_toI9 (by omega)] at h2
    omega
theorem vaN_due {d : Nat} : ∀ (i v : Nat), vaN (m_due d) i v = v * 2 ^ i + d % 2 ^ i := by
  intro i v
  have h := t_numW_val (ms := false) (d := d) i v ((0, fun _ => 0, 0, 0, 8) : wS)
  rw [t_num_em (bitW false) (step := fun u d => (bitW false u d).2) bitW_e] at h
  exact h
theorem t_pass_c {β : Type} (bit : β → Bool → Bool × β) {step : β → Bool → β} (h : ∀ s d, bit s d = (d, step s d)) {d1 d2 : Bool} {f2 f5 f7 : Nat → Bool} {s : β} :
    t_pass bit d1 d2 f2 f5 f7 s = if d1 = false then (1, step s d1) else if d2 = false then (2, step (step s d1) d2) else if vaN f2 2 0 < 3 then (3 + vaN f2 2 0, emN step f2 2 (step (step s d1) d2)) else if vaN f5 5 0 < 31 then (6 + vaN f5 5 0, emN step f5 5 (emN step f2 2 (step (step s d1) d2))) else (37 + vaN f7 7 0, emN step f7 7 (emN step f5 5 (emN step f2 2 (step (step s d1) d2)))) := by
  unfold t_pass t_p2 t_p5
  simp only [h, t_num_em bit h]
theorem pA_eq {n : Nat} (h : 3 ≤ n) (h2 : n ≤ 164) : pA n = nI (min (n - 3) 3) := by
  show (if 5 < n then nI 3 else nI n - nI 3) = _
  by_cases q : 5 < n
  · rw [if_pos q, Nat.min_eq_right (by omega)]
  · rw [if_neg q, Nat.min_eq_left (by omega), pk_sub h]
theorem pB_eq {n : Nat} (h : 6 ≤ n) (h2 : n ≤ 164) : pB n = nI (min (n - 6) 31) := by
  show (if 36 < n then nI 31 else nI n - nI 6) = _
  by_cases q : 36 < n
  · rw [if_pos q, Nat.min_eq_right (by omega)]
  · rw [if_neg q, Nat.min_eq_left (by omega), pk_sub h]
theorem pC_eq {n : Nat} (h : 37 ≤ n) (h2 : n ≤ 164) : pC n = nI (n - 37) := by
  show nI n - nI 37 = _
  rw [pk_sub h]
theorem emN_R {β₁ β₂ : Type} {R : β₁ → β₂ → Prop} {st1 : β₁ → Bool → β₁} {st2 : β₂ → Bool → β₂} (hR : ∀ u s d, R u s → R (st1 u d) (st2 s d)) {due : Nat → Bool} : ∀ (i : Nat) {u : β₁} {s : β₂}, R u s → R (emN st1 due i u) (emN st2 due i s)
  | 0, _, _, h => h
  | i + 1, _, _, h => emN_R hR i (hR _ _ _ h)
theorem pass_gen {β₁ β₂ : Type} {R : β₁ → β₂ → Prop} (c1 : β₁ → Bool → Bool × β₁) (c2 : β₂ → Bool → Bool × β₂) {st1 : β₁ → Bool → β₁} {st2 : β₂ → Bool → β₂} (k1 : ∀ s d, c1 s d = (d, st1 s d)) (k2 : ∀ s d, c2 s d = (d, st2 s d)) (hR : ∀ u s d, R u s → R (st1 u d) (st2 s d)) {n : Nat} {u : β₁} {s : β₂} (h1 : 1 ≤ n) (h2 : n ≤ 164) (hb : R u s) : (t_pass c1 (decide (1 < n)) (decide (2 < n)) (m_due (min (n - 3) 3)) (m_due (min (n - 6) 31)) (m_due (n - 37)) u).1 = n ∧ (t_pass c2 (decide (1 < n)) (decide (2 < n)) (m_dv (pA n)) (m_dv (pB n)) (m_dv (pC n)) s).1 = n ∧ R (t_pass c1 (decide (1 < n)) (decide (2 < n)) (m_due (min (n - 3) 3)) (m_due (min (n - 6) 31)) (m_due (n - 37)) u).2 (t_pass c2 (decide (1 < n)) (decide (2 < n)) (m_dv (pA n)) (m_dv (pB n)) (m_dv (pC n)) s).2 := by
  rw [t_pass_c c1 k1, t_pass_c c2 k2]
  have b1 := hR _ _ (decide (1 < n)) hb
  have b2 := hR _ _ (decide (2 < n)) b1
  by_cases q1 : 1 < n
  · by_cases q2 : 2 < n
    · have e1 : ¬ decide (1 < n) = false := by rw [decide_eq_true q1]; decide
      have e2 : ¬ decide (2 < n) = false := by rw [decide_eq_true q2]; decide
      have A : ∀ j, j < 2 → m_dv (pA n) j = m_due (min (n - 3) 3) j := fun j hj => by rw [pA_eq (by omega) h2]; exact m_dv_due (by omega) (by omega)
      have b3 := emN_R hR (due := m_due (min (n - 3) 3)) 2 b2
      rw [if_neg e1, if_neg e1, if_neg e2, if_neg e2, vaN_eq 2 0 A, emN_eq 2 _ A]
      have v2 : vaN (m_due (min (n - 3) 3)) 2 0 = min (n - 3) 3 := by rw [vaN_due, Nat.zero_mul, Nat.zero_add, Nat.mod_eq_of_lt (by show min (n - 3) 3 < 4; omega)]
      rw [v2]
      by_cases q3 : min (n - 3) 3 < 3
      · rw [if_pos q3, if_pos q3]
        exact ⟨by show 3 + min (n - 3) 3 = n; omega, by show 3 + min (n - 3) 3 = n; omega, b3⟩
      · have B : ∀ j, j < 5 → m_dv (pB n) j = m_due (min (n - 6) 31) j := fun j hj => by rw [pB_eq (by omega) h2]; exact m_dv_due (by omega) (by omega)
        have b4 := emN_R hR (due := m_due (min (n - 6) 31)) 5 b3
        rw [if_neg q3, if_neg q3, vaN_eq 5 0 B, emN_eq 5 _ B]
        have v5 : vaN (m_due (min (n - 6) 31)) 5 0 = min (n - 6) 31 := by rw [vaN_due, Nat.zero_mul, Nat.zero_add, Nat.mod_eq_of_lt (by show min (n - 6) 31 < 32; omega)]
        rw [v5]
        by_cases q4 : min (n - 6) 31 < 31
        · rw [if_pos q4, if_pos q4]
          exact ⟨by show 6 + min (n - 6) 31 = n; omega, by show 6 + min (n - 6) 31 = n; omega, b4⟩
        · have D : ∀ j, j < 7 → m_dv (pC n) j = m_due (n - 37) j := fun j hj => by rw [pC_eq (by omega) h2]; exact m_dv_due (by omega) (by omega)
          rw [if_neg q4, if_neg q4, vaN_eq 7 0 D, emN_eq 7 _ D]
          have v7 : vaN (m_due (n - 37)) 7 0 = n - 37 := by rw [vaN_due, Nat.zero_mul, Nat.zero_add, Nat.mod_eq_of_lt (by show n - 37 < 128; omega)]
          rw [v7]
          have b5 := emN_R hR (due := m_due (n - 37)) 7 b4
          exact ⟨by show 37 + (n - 37) = n; omega, by show 37 + (n - 37) = n; omega, b5⟩
    · have e1 : ¬ decide (1 < n) = false := by rw [decide_eq_true q1]; decide
      have e2 : decide (2 < n) = false := decide_eq_false q2
      rw [if_neg e1, if_neg e1, if_pos e2, if_pos e2]
      exact ⟨by show 2 = n; omega, by show 2 = n; omega, b2⟩
  · have e1 : decide (1 < n) = false := decide_eq_false q1
    rw [if_pos e1, if_pos e1]
    exact ⟨by show 1 = n; omega, by show 1 = n; omega, b1⟩
theorem pass_rel {ms : Bool} {f : Nat → Nat} {z n : Nat} {u : wS} {s : mS} (h1 : 1 ≤ n) (h2 : n ≤ 164) (hb : Bs ms u s) : (fpW ms n u).1 = n ∧ (fpM false f z n s).1 = n ∧ Bs ms (fpW ms n u).2 (fpM false f z n s).2 :=
  pass_gen (R := Bs ms) (bitW ms) (bitM false f z) (st1 := fun u d => (bitW ms u d).2) (st2 := r_put) bitW_e bitM_e (fun _ _ d h => Bs_bit h d) h1 h2 hb
theorem r_fw_W {w : Nat} {s : mS} : r_fw false w s = s := by unfold r_fw; rw [if_neg (fun q => Bool.noConfusion q.1)]
theorem wid_rel {ms : Bool} {f : Nat → Nat} {z d : Nat} (hd : d < 2 ^ 16) : ∀ (k w : Nat) (u : wS) (s : mS), w + k = 24 → Bs ms u s →
    (t_wid (bitW ms) (fun w => decide (0 < d / 2 ^ w)) (25 - w) w u).1 = (r_wid (bitM false f z) false (fun w => decide (0 < d / 2 ^ w)) (40 - w) w s).1 ∧ w ≤ (t_wid (bitW ms) (fun w => decide (0 < d / 2 ^ w)) (25 - w) w u).1 ∧ (t_wid (bitW ms) (fun w => decide (0 < d / 2 ^ w)) (25 - w) w u).1 ≤ 24 ∧ d / 2 ^ (t_wid (bitW ms) (fun w => decide (0 < d / 2 ^ w)) (25 - w) w u).1 = 0 ∧ Bs ms (t_wid (bitW ms) (fun w => decide (0 < d / 2 ^ w)) (25 - w) w u).2 (r_wid (bitM false f z) false (fun w => decide (0 < d / 2 ^ w)) (40 - w) w s).2
  | k, w, u, s, hk, hb => by
    have hs := hb.2.1
    have hbb := Bs_bit hb (decide (0 < d / 2 ^ w))
    by_cases q : 0 < d / 2 ^ w
    · have hw := lt16 q hd
      have e1 : (bitW ms u ((fun w => decide (0 < d / 2 ^ w)) w)).1 = true := decide_eq_true q
      have e2 : (bitM false f z s ((fun w => decide (0 < d / 2 ^ w)) w)).1 = true := by rw [bitM_W]; exact decide_eq_true q
      rw [t_wid_t (bitW ms) (due := fun w => decide (0 < d / 2 ^ w)) (by omega) e1, r_wid_t (bitM false f z) (due := fun w => decide (0 < d / 2 ^ w)) (by omega) hs e2, r_fw_W, bitM_W]
      match k, hk with
      | 0, hk => omega
      | k + 1, hk =>
        have ih := wid_rel (f := f) (z := z) hd k (w + 1) _ _ (by omega) hbb
        exact ⟨ih.1, by have := ih.2.1; omega, ih.2.2.1, ih.2.2.2.1, ih.2.2.2.2⟩
    · have e1 : (bitW ms u ((fun w => decide (0 < d / 2 ^ w)) w)).1 = false := decide_eq_false q
      have e2 : (bitM false f z s ((fun w => decide (0 < d / 2 ^ w)) w)).1 = false := by rw [bitM_W]; exact decide_eq_false q
      rw [t_wid_f (bitW ms) (due := fun w => decide (0 < d / 2 ^ w)) (by omega) e1, r_wid_f (bitM false f z) (due := fun w => decide (0 < d / 2 ^ w)) (by omega) hs e2, bitM_W]
      exact ⟨rfl, Nat.le_refl _, by show w ≤ 24; omega, Nat.eq_zero_of_not_pos q, hbb⟩
set_option maxHeartbeats 4000000 in
set_option maxRecDepth 100000 in
theorem len_rel {ms : Bool} {f : Nat → Nat} {z x d b b2 : Nat} {gr jgr : Nat → Nat} {u : wS} {s : mS} (hd : d < 2 ^ 16) (hx : x ≤ 164) (hg : gr b = jgr b2) (hg2 : gr b ≤ 16) (hb : Bs ms u s) :
    (flW ms x d gr b u).1 = d ∧ (flM false f z x d b2 jgr s).1 = d ∧ (∃ k, k ≤ 16 ∧ (flW ms x d gr b u).2.1 = va_up gr b k ∧ (flM false f z x d b2 jgr s).2.1 = va_up jgr b2 k) ∧ Bs ms (flW ms x d gr b u).2.2 (flM false f z x d b2 jgr s).2.2 := by
  have hp := r_pow7 hx
  show (t_len (bitW ms) (fun w => decide (0 < d / 2 ^ w)) (m_due d) x gr b u).1 = d ∧ (r_len (bitM false f z) false (fun w => decide (0 < d / 2 ^ w)) (m_dv (nI d)) x jgr b2 s).1 = d ∧ (∃ k, k ≤ 16 ∧ (t_len (bitW ms) (fun w => decide (0 < d / 2 ^ w)) (m_due d) x gr b u).2.1 = va_up gr b k ∧ (r_len (bitM false f z) false (fun w => decide (0 < d / 2 ^ w)) (m_dv (nI d)) x jgr b2 s).2.1 = va_up jgr b2 k) ∧ Bs ms (t_len (bitW ms) (fun w => decide (0 < d / 2 ^ w)) (m_due d) x gr b u).2.2 (r_len (bitM false f z) false (fun w => decide (0 < d / 2 ^ w)) (m_dv (nI d)) x jgr b2 s).2.2
  unfold t_len r_len
  rw [r_fw_W, ← hg]
  have hw := wid_rel (ms := ms) (f := f) (z := z) hd (24 - (gr b + m_pow x)) (gr b + m_pow x) u s (by omega) hb
  have hw2 := t_widW (ms := ms) hd (n := 25 - (gr b + m_pow x)) (w := gr b + m_pow x) (s := u)
  generalize t_wid (bitW ms) (fun w => decide (0 < d / 2 ^ w)) (25 - (gr b + m_pow x)) (gr b + m_pow x) u = A at hw hw2 ⊢
  generalize r_wid (bitM false f z) false (fun w => decide (0 < d / 2 ^ w)) (40 - (gr b + m_pow x)) (gr b + m_pow x) s = B at hw ⊢
  obtain ⟨w1, w2, w3, w4, w5⟩ := hw
  have hs : B.2.1 = 0 := w5.2.1
  have hlt : d < 2 ^ A.1 := by
    have h0 : 0 < 2 ^ A.1 := Nat.pow_pos (by omega)
    rcases Nat.lt_or_ge d (2 ^ A.1) with q | q
    · exact q
    · have := Nat.div_pos q h0; omega
  unfold r_l2
  rw [if_pos w3, if_pos hs, ← w1, t_num_em (bitW ms) (step := fun u d => (bitW ms u d).2) bitW_e, t_num_em (bitM false f z) (step := r_put) bitM_e]
  have A2 : ∀ j, j < A.1 → m_dv (nI d) j = m_due d j := fun j hj => m_dv_due (by omega) (by omega)
  rw [vaN_eq _ _ A2, emN_eq _ _ A2, vaN_due, Nat.zero_mul, Nat.zero_add, Nat.mod_eq_of_lt hlt]
  refine ⟨rfl, rfl, ⟨A.1 - m_pow x, ?_, rfl, rfl⟩, Bs_emN _ w5⟩
  rcases hw2 with q | q <;> omega

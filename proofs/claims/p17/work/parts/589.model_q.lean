/-! what every bit of the writer keeps, a walk over the heads keeps -/
section PRQ
variable {ms : Bool} {P : wS → Prop}
theorem pr_num (hb : ∀ s d, P s → P (bitW ms s d).2) {due : Nat → Bool} : ∀ (i v : Nat) (s : wS), P s → P (t_num (bitW ms) due i v s).2
  | 0, _, _, h => h
  | i + 1, _, s, h => by
    rw [t_num]
    exact pr_num hb i _ _ (hb s _ h)
theorem pr_lp (hb : ∀ s d, P s → P (bitW ms s d).2) {v nd en : Nat} : ∀ (i lw : Nat) (dn : Nat → Bool) (s : wS), P s → P (t_lp (bitW ms) v nd en i lw dn s).2.2
  | 0, _, _, _, h => h
  | i + 1, lw, dn, s, h => by
    rw [t_lp]
    split
    · split
      · exact hb _ _ h
      · exact pr_lp hb i _ _ _ (hb _ _ h)
    · exact h
theorem pr_rows (hb : ∀ s d, P s → P (bitW ms s d).2) {vs q : Nat → Nat} {en : Nat} : ∀ (i : Nat) (x : tX wS), P x.2.2.2 → P (t_rows (bitW ms) vs en q i x).2.2.2
  | 0, _, h => h
  | i + 1, x, h => by
    rw [t_rows]
    exact pr_rows hb i _ (pr_lp hb _ _ _ _ h)
theorem pr_pass (hb : ∀ s d, P s → P (bitW ms s d).2) {d1 d2 : Bool} {f2 f5 f7 : Nat → Bool} {s : wS} (h : P s) : P (t_pass (bitW ms) d1 d2 f2 f5 f7 s).2 := by
  unfold t_pass
  have h1 := hb s d1 h
  have h2 := hb _ d2 h1
  split
  · exact h1
  · split
    · exact h2
    · unfold t_p2
      have h3 := pr_num hb (due := f2) 2 0 _ h2
      split
      · exact h3
      · unfold t_p5
        have h4 := pr_num hb (due := f5) 5 0 _ h3
        split
        · exact h4
        · exact pr_num hb (due := f7) 7 0 _ h4
theorem pr_wid (hb : ∀ s d, P s → P (bitW ms s d).2) {due : Nat → Bool} : ∀ (n w : Nat) (s : wS), P s → P (t_wid (bitW ms) due n w s).2
  | 0, _, _, h => h
  | n + 1, w, s, h => by
    rw [t_wid]
    split
    · split
      · exact pr_wid hb n _ _ (hb _ _ h)
      · exact hb _ _ h
    · exact h
theorem pr_len (hb : ∀ s d, P s → P (bitW ms s d).2) (hf : ∀ s k, P s → P (t_fl s k)) {due dn : Nat → Bool} {x b : Nat} {gr : Nat → Nat} {s : wS} (h : P s) : P (t_len (bitW ms) due dn x gr b s).2.2 := by
  unfold t_len
  have h1 := pr_wid hb (due := due) (25 - (gr b + m_pow x)) (gr b + m_pow x) s h
  split
  · exact pr_num hb _ _ _ h1
  · exact hf _ _ h1
theorem pr_b2 (hb : ∀ s d, P s → P (bitW ms s d).2) (hf : ∀ s k, P s → P (t_fl s k)) {L y b : Nat} {X : hS wT} (h : P X.2.2.2.2.2.2.2.2.2) : P (t_b2 (fpW ms) (flW ms) L y b X).2.2.2.2.2.2.2.2.2 := by
  unfold t_b2
  exact pr_len hb hf (pr_pass hb h)
theorem pr_blk (hb : ∀ s d, P s → P (bitW ms s d).2) (hf : ∀ s k, P s → P (t_fl s k)) {vs1 vs2 q : Nat → Nat} {r L y b le : Nat} {X : hS wT} (h : P X.2.2.2.2.2.2.2.2.2) : P (t_blk (bitW ms) (fpW ms) (flW ms) vs1 vs2 q r L y b le X).2.2.2.2.2.2.2.2.2 := by
  unfold t_blk
  split
  · split
    · exact hb _ _ h
    · exact pr_b2 hb hf (hb _ _ h)
  · have hr1 := pr_rows hb (vs := vs1) (q := q) (en := y + 1) r (0, X.2.2.2.2.2.1, X.2.2.2.2.2.2.1, X.2.2.2.2.2.2.2.2.2) h
    split
    · exact hr1
    · refine pr_b2 hb hf ?_
      have hr2 := pr_rows hb (vs := vs2) (q := q) (en := 31) r (0, X.2.2.2.2.2.2.2.1, X.2.2.2.2.2.2.2.2.1, (t_rows (bitW ms) vs1 (y + 1) q r (0, X.2.2.2.2.2.1, X.2.2.2.2.2.2.1, X.2.2.2.2.2.2.2.2.2)).2.2.2) hr1
      show P (t_z _ _)
      unfold t_z
      split
      · exact hr2
      · exact hf _ _ hr2
theorem pr_go {step : Nat → hS wT → hS wT} (hs : ∀ j Y, P Y.2.2.2.2.2.2.2.2.2 → P (step j Y).2.2.2.2.2.2.2.2.2) : ∀ (m j : Nat) (Y : hS wT), P Y.2.2.2.2.2.2.2.2.2 → P (t_go step m j Y).2.2.2.2.2.2.2.2.2
  | 0, _, _, h => h
  | m + 1, j, Y, h => by
    rw [t_go]
    exact pr_go hs m (j + 1) _ (hs j Y h)
theorem pr_hd (hb : ∀ s d, P s → P (bitW ms s d).2) (hf : ∀ s k, P s → P (t_fl s k)) {vs1 vs2 : Nat → Nat} {L y fr sz nb w h : Nat} {Y : hS wT} (hg : P Y.2.2.2.2.2.2.2.2.2) : P (t_hd (bitW ms) (fpW ms) (flW ms) vs1 vs2 L y fr sz nb w h Y).2.2.2.2.2.2.2.2.2 := by
  unfold t_hd t_h2
  have h1 := hb _ (m_any Y.1 L y fr (fr + nb * sz)) hg
  split
  · exact pr_go (fun j Y hY => pr_blk hb hf hY) _ _ _ h1
  · exact h1
theorem pr_wend (hb : ∀ s d, P s → P (bitW ms s d).2) : ∀ (n : Nat) (s : wS), P s → P (t_wend ms n s)
  | 0, _, h => h
  | n + 1, s, h => by
    rw [t_wend]
    split
    · exact pr_wend hb n _ (hb _ _ h)
    · exact h
theorem pr_it (hb : ∀ s d, P s → P (bitW ms s d).2) (hf : ∀ s k, P s → P (t_fl s k)) {vs1 vs2 pl sta bd wd ht : Nat → Nat} {L Rz : Nat} {Y : hS wT} (h : P Y.2.2.2.2.2.2.2.2.2) : ∀ k, P (t_it (pkW ms vs1 vs2 pl sta bd wd ht L Rz) k Y).2.2.2.2.2.2.2.2.2
  | 0 => h
  | k + 1 => by
    rw [t_it]
    have ih := pr_it hb hf (vs1 := vs1) (vs2 := vs2) (pl := pl) (sta := sta) (bd := bd) (wd := wd) (ht := ht) (L := L) (Rz := Rz) h k
    exact pr_wend hb 8 _ (pr_hd hb hf ih)
end PRQ
/-- measuring leaves the bytes as they are -/
theorem row_T {vs1 vs2 pl sta bd wd ht : Nat → Nat} {L Rz : Nat} {Y : hS wT} (k : Nat) : (t_it (pkW true vs1 vs2 pl sta bd wd ht L Rz) k Y).2.2.2.2.2.2.2.2.2.2.1 = Y.2.2.2.2.2.2.2.2.2.2.1 := by
  refine pr_it (ms := true) (P := fun s => s.2.1 = Y.2.2.2.2.2.2.2.2.2.2.1) (fun s d h => ?_) (fun s j h => h) rfl k
  show (m_wb true s.2.1 s.2.2.1 s.2.2.2.1 s.2.2.2.2 d).1 = _
  unfold m_wb
  split
  · show (if true = false ∧ s.2.2.1 < 6000 then va_up s.2.1 s.2.2.1 (m_wc s.2.2.2.1 s.2.2.2.2 d) else s.2.1) = _
    rw [if_neg (fun q => Bool.noConfusion q.1)]; exact h
  · exact h
/-- bytes stay bytes -/
theorem row_F {ms : Bool} {vs1 vs2 pl sta bd wd ht : Nat → Nat} {L Rz : Nat} {Y : hS wT} (h : (∀ j, Y.2.2.2.2.2.2.2.2.2.2.1 j < 256) ∧ Y.2.2.2.2.2.2.2.2.2.2.2.2.1 < 256 ∧ Y.2.2.2.2.2.2.2.2.2.2.2.2.2 ≤ 8) (k : Nat) : ∀ j, (t_it (pkW ms vs1 vs2 pl sta bd wd ht L Rz) k Y).2.2.2.2.2.2.2.2.2.2.1 j < 256 := by
  refine (pr_it (ms := ms) (P := fun s => (∀ j, s.2.1 j < 256) ∧ s.2.2.2.1 < 256 ∧ s.2.2.2.2 ≤ 8) (fun s d h => ?_) (fun s j h => h) h k).1
  obtain ⟨h1, h2, h3⟩ := h
  have hw := m_wc_lt (d := d) h2 h3
  show (∀ j, (m_wb ms s.2.1 s.2.2.1 s.2.2.2.1 s.2.2.2.2 d).1 j < 256) ∧ (m_wb ms s.2.1 s.2.2.1 s.2.2.2.1 s.2.2.2.2 d).2.2.1 < 256 ∧ (m_wb ms s.2.1 s.2.2.1 s.2.2.2.1 s.2.2.2.2 d).2.2.2 ≤ 8
  unfold m_wb
  split
  · refine ⟨?_, by show 0 < 256; omega, by show (if m_wc s.2.2.2.1 s.2.2.2.2 d = 255 then 7 else 8) ≤ 8; split <;> omega⟩
    show ∀ j, (if ms = false ∧ s.2.2.1 < 6000 then va_up s.2.1 s.2.2.1 (m_wc s.2.2.2.1 s.2.2.2.2 d) else s.2.1) j < 256
    split
    · exact m_up_lt h1 hw
    · exact h1
  · exact ⟨h1, hw, by show s.2.2.2.2 - 1 ≤ 8; omega⟩
/-! bounds behind a whole walk -/
theorem gdV_it {ms : Bool} {vs1 vs2 pl sta pr bd wd ht : Nat → Nat} {N n C L Rz M : Nat} {Y : hS wT} (h : shp sta pr bd wd ht n) (hn : n = C * Rz) (hN : sta n ≤ N) (hL : L ≤ 8) (hp : ∀ k, k < M → pl (k * 4) < L ∧ pl (k * 4 + 1) < Rz ∧ pl (k * 4 + 2) < C ∧ pl (k * 4 + 3) < pr (pl (k * 4 + 2) * Rz + pl (k * 4 + 1))) : ∀ k K, k ≤ M → gdV N (K + 10809 * k) Y → gdV N K (t_it (pkW ms vs1 vs2 pl sta bd wd ht L Rz) k Y)
  | 0, K, _, h => h
  | k + 1, K, hk, hg => by
    rw [t_it]
    obtain ⟨a0, a1, a2, a3⟩ := hp k (by omega)
    refine gdV_pk h hN (by rw [hn]; exact m_in a2 a1) a3 (by show pl (k * 4) < 8; omega) ?_
    exact gdV_it h hn hN hL hp k (K + 10809) (by omega) (gdV_le hg (by rw [Nat.mul_succ]; omega))
theorem gdQ_it {f : Nat → Nat} {z : Nat} (hf : ∀ j, f j < 256) {vs1 vs2 pl sta bd wd ht : Nat → Nat} {N L Rz M : Nat} {Y : hS rT} (hL : L ≤ 8) (hp : ∀ k, k < M → pl (k * 4) < L) (hg : gdQ N z Y) : ∀ k, k ≤ M → gdQ N z (t_it (pkR f z vs1 vs2 pl sta bd wd ht L Rz) k Y)
  | 0, _ => hg
  | k + 1, hk => by
    rw [t_it]
    have a0 := hp k (by omega)
    exact gdQ_pk hf (by show pl (k * 4) < 8; omega) (gdQ_it hf hL hp hg k (by omega))

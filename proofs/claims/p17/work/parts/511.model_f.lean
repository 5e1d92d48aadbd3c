/-! the class's heads -/
abbrev xW : Type := hS wT
abbrev xR : Type := hS rT
def m_fv (ps : Nat → Nat) (L : Nat) : Nat → Nat := fun b => m_first ps b L
theorem m_fv_lt {ps : Nat → Nat} {L B : Nat} (h : L < B) : ∀ j, m_fv ps L j < B := fun j => Nat.lt_of_le_of_lt (m_first_le ps j L) h
/-- what holds all along a walk over the heads; N blocks there are -/
def gdV (N k : Nat) (X : hS wT) : Prop := (∀ j, X.2.2.2.2.2.1 j < 2 ^ 30) ∧ (∀ j, X.2.2.2.2.2.2.2.1 j < 2 ^ 30) ∧ (∀ j, X.1 j ≤ 164) ∧ (∀ j, X.2.1 j < 2 ^ 16) ∧ (∀ j, j < N → X.2.2.2.1 j ≤ 16) ∧ okW k X.2.2.2.2.2.2.2.2.2 ∧ (∀ j, X.2.2.1 j < 2 ^ 30)
def gdQ (N n : Nat) (X : hS rT) : Prop := (∀ j, X.2.2.2.2.2.1 j < 2 ^ 30) ∧ (∀ j, X.2.2.2.2.2.2.2.1 j < 2 ^ 30) ∧ (∀ j, X.1 j ≤ 164) ∧ (∀ j, X.2.1 j < 2 ^ 30) ∧ (∀ j, j < N → X.2.2.2.1 j ≤ 24) ∧ okR n X.2.2.2.2.2.2.2.2.2 ∧ (∀ j, X.2.2.1 j < 2 ^ 30)
theorem gdV_le {N j k : Nat} {X : hS wT} (h : gdV N k X) (hj : j ≤ k) : gdV N j X := ⟨h.1, h.2.1, h.2.2.1, h.2.2.2.1, h.2.2.2.2.1, okW_le h.2.2.2.2.2.1 hj, h.2.2.2.2.2.2⟩
theorem m_up_lim {f : Nat → Nat} {k v B N : Nat} (h : ∀ j, j < N → f j ≤ B) (hv : v ≤ B) : ∀ j, j < N → va_up f k v j ≤ B := by
  intro j hj
  unfold va_up
  split
  · exact hv
  · exact h j hj
theorem gdV_b2 {ms : Bool} {N L y b k : Nat} {X : hS wT} (hb : b < N) (h : gdV N (k + 65) X) : gdV N k (t_b2 (fpW ms) (flW ms) L y b X) := by
  obtain ⟨h1, h2, h3, h4, h5, h6, h7⟩ := h
  obtain ⟨s3, e3⟩ : ∃ z, z = fpW ms (X.1 (b * L + y)) X.2.2.2.2.2.2.2.2.2 := ⟨_, rfl⟩
  obtain ⟨s4, e4⟩ : ∃ z, z = flW ms s3.1 (X.2.1 (b * L + y)) X.2.2.2.1 b s3.2 := ⟨_, rfl⟩
  rw [t_b2_eq (fp := fpW ms) (fl := flW ms) (X := X) e3 e4]
  have hc : s3.1 ≤ 164 := by rw [e3]; exact t_pass_le _
  have ho : okW (k + 49) s3.2 := by rw [e3]; exact okW_pass (okW_le h6 (by omega))
  have hd := h4 (b * L + y)
  have ho2 : okW k s4.2.2 := by rw [e4]; exact okW_len ho
  have hw := t_widW (ms := ms) hd (n := 25 - (X.2.2.2.1 b + m_pow s3.1)) (w := X.2.2.2.1 b + m_pow s3.1) (s := s3.2)
  have hg := h5 b hb
  refine ⟨h1, h2, m_up_le h3 hc, m_up_lt h4 ?_, ?_, ho2, h7⟩
  · rw [e4]
    show (t_len _ _ _ _ _ _ _).1 < _
    unfold t_len
    split
    · show (t_num _ _ _ _ _).1 < _
      rw [t_numW_val]
      have := Nat.mod_le (X.2.1 (b * L + y)) (2 ^ (t_wid (bitW ms) (fun w => decide (0 < X.2.1 (b * L + y) / 2 ^ w)) (25 - (X.2.2.2.1 b + m_pow s3.1)) (X.2.2.2.1 b + m_pow s3.1) s3.2).1)
      omega
    · show 0 < _; omega
  · show ∀ j, j < N → s4.2.1 j ≤ 16
    rw [e4]
    show ∀ j, j < N → (t_len _ _ _ _ _ _ _).2.1 j ≤ 16
    unfold t_len
    split
    · exact m_up_lim h5 (by rcases hw with q | q <;> omega)
    · exact h5
theorem gdQ_b2 {f : Nat → Nat} {n : Nat} (hf : ∀ j, f j < 256) {N L y b : Nat} {X : hS rT} (h : gdQ N n X) : gdQ N n (t_b2 (fpR f n) (flR f n) L y b X) := by
  obtain ⟨h1, h2, h3, h4, h5, h6, h7⟩ := h
  obtain ⟨s3, e3⟩ : ∃ z, z = fpR f n (X.1 (b * L + y)) X.2.2.2.2.2.2.2.2.2 := ⟨_, rfl⟩
  obtain ⟨s4, e4⟩ : ∃ z, z = flR f n s3.1 (X.2.1 (b * L + y)) X.2.2.2.1 b s3.2 := ⟨_, rfl⟩
  rw [t_b2_eq (fp := fpR f n) (fl := flR f n) (X := X) e3 e4]
  have hc : s3.1 ≤ 164 := by rw [e3]; exact t_pass_le _
  have ho : okR n s3.2 := by rw [e3]; exact okR_pass hf h6
  have ho2 : okR n s4.2.2 := by rw [e4]; exact okR_len hf ho
  refine ⟨h1, h2, m_up_le h3 hc, m_up_lt h4 ?_, ?_, ho2, h7⟩
  · rw [e4]
    show (t_len _ _ _ _ _ _ _).1 < _
    unfold t_len
    split
    · rename_i hw
      show (t_num _ _ _ _ _).1 < _
      refine Nat.lt_of_lt_of_le (t_num_lt _ _ _ _ _) ?_
      rw [Nat.zero_add, Nat.one_mul]
      exact Nat.le_trans (Nat.pow_le_pow_right (by omega) hw) (by omega)
    · show 0 < _; omega
  · show ∀ j, j < N → s4.2.1 j ≤ 24
    rw [e4]
    show ∀ j, j < N → (t_len _ _ _ _ _ _ _).2.1 j ≤ 24
    unfold t_len
    split
    · exact m_up_lim h5 (by omega)
    · exact h5
theorem t_rows_low {β : Type} (bit : β → Bool → Bool × β) {vs q : Nat → Nat} {en B : Nat} (he : en < B) : ∀ {i : Nat} {x : tX β}, x.1 < B → (∀ j, x.2.1 j < B) → (t_rows bit vs en q i x).1 < B
  | 0, _, h, _ => h
  | i + 1, x, h1, h => by
    rw [t_rows]
    have hm : max x.1 (x.2.1 (q i)) < B := by have := h (q i); omega
    exact t_rows_low bit he (i := i) (t_lp_low bit he hm) (m_up_lt h (t_lp_low bit he hm))
theorem gdV_blk {ms : Bool} {vs1 vs2 q : Nat → Nat} {N r L y b le k : Nat} {X : hS wT} (hb : b < N) (hr : r ≤ 3) (hy : y < 8) (h : gdV N (k + 300) X) : gdV N k (t_blk (bitW ms) (fpW ms) (flW ms) vs1 vs2 q r L y b le X) := by
  obtain ⟨h1, h2, h3, h4, h5, h6, h7⟩ := h
  unfold t_blk
  have hbt := okW_bit (ms := ms) (k := k + 299) h6 (decide (0 < X.1 (b * L + y)))
  split
  · split
    · exact ⟨h1, h2, h3, h4, h5, okW_le hbt (by omega), h7⟩
    · exact gdV_b2 (k := k) hb ⟨h1, h2, h3, h4, h5, okW_le hbt (by omega), h7⟩
  · have hr1 : okW (k + 270) (t_rows (bitW ms) vs1 (y + 1) q r (0, X.2.2.2.2.2.1, X.2.2.2.2.2.2.1, X.2.2.2.2.2.2.2.2.2)).2.2.2 := okW_rows (okW_le h6 (by have := Nat.mul_le_mul hr (show y + 1 + 1 ≤ 10 by omega); omega))
    have hl1 := t_rows_lo (bitW ms) (vs := vs1) (q := q) (en := y + 1) (B := 2 ^ 30) (by omega) (i := r) (x := (0, X.2.2.2.2.2.1, X.2.2.2.2.2.2.1, X.2.2.2.2.2.2.2.2.2)) (by show 0 < _; omega) h1
    split
    · exact ⟨hl1, h2, h3, h4, h5, okW_le hr1 (by omega), h7⟩
    · refine gdV_b2 (k := k) hb ⟨hl1, t_rows_lo (bitW ms) (by omega) (by show 0 < _; omega) h2, h3, h4, h5, ?_, m_up_lt h7 (t_rows_low (bitW ms) (by omega) (by show 0 < _; omega) h2)⟩
      have hr2 : okW (k + 170) (t_rows (bitW ms) vs2 31 q r (0, X.2.2.2.2.2.2.2.1, X.2.2.2.2.2.2.2.2.1, (t_rows (bitW ms) vs1 (y + 1) q r (0, X.2.2.2.2.2.1, X.2.2.2.2.2.2.1, X.2.2.2.2.2.2.2.2.2)).2.2.2)).2.2.2 := okW_rows (okW_le hr1 (by omega))
      show okW (k + 65) (t_z _ _)
      unfold t_z
      split
      · exact okW_le hr2 (by omega)
      · exact okW_fl (okW_le hr2 (by omega)) (by omega)
theorem gdQ_blk {f : Nat → Nat} {n : Nat} (hf : ∀ j, f j < 256) {vs1 vs2 q : Nat → Nat} {N r L y b le : Nat} {X : hS rT} (hy : y < 8) (h : gdQ N n X) : gdQ N n (t_blk (bitR f n) (fpR f n) (flR f n) vs1 vs2 q r L y b le X) := by
  obtain ⟨h1, h2, h3, h4, h5, h6, h7⟩ := h
  unfold t_blk
  have hb := okR_bit hf h6 (decide (0 < X.1 (b * L + y)))
  split
  · split
    · exact ⟨h1, h2, h3, h4, h5, hb, h7⟩
    · exact gdQ_b2 hf ⟨h1, h2, h3, h4, h5, hb, h7⟩
  · have hr1 : okR n (t_rows (bitR f n) vs1 (y + 1) q r (0, X.2.2.2.2.2.1, X.2.2.2.2.2.2.1, X.2.2.2.2.2.2.2.2.2)).2.2.2 := okR_rows hf h6
    have hl1 := t_rows_lo (bitR f n) (vs := vs1) (q := q) (en := y + 1) (B := 2 ^ 30) (by omega) (i := r) (x := (0, X.2.2.2.2.2.1, X.2.2.2.2.2.2.1, X.2.2.2.2.2.2.2.2.2)) (by show 0 < _; omega) h1
    split
    · exact ⟨hl1, h2, h3, h4, h5, hr1, h7⟩
    · refine gdQ_b2 hf ⟨hl1, t_rows_lo (bitR f n) (by omega) (by show 0 < _; omega) h2, h3, h4, h5, ?_, m_up_lt h7 (t_rows_low (bitR f n) (by omega) (by show 0 < _; omega) h2)⟩
      have hr2 : okR n (t_rows (bitR f n) vs2 31 q r (0, X.2.2.2.2.2.2.2.1, X.2.2.2.2.2.2.2.2.1, (t_rows (bitR f n) vs1 (y + 1) q r (0, X.2.2.2.2.2.1, X.2.2.2.2.2.2.1, X.2.2.2.2.2.2.2.2.2)).2.2.2)).2.2.2 := okR_rows hf hr1
      show okR n (t_z _ _)
      unfold t_z
      split
      · exact hr2
      · exact okR_fl hr2 (by omega)
section TH
variable {γ : Type}
def h_s (s : Nat × γ) (Y : hS γ) : hS γ := (Y.1, Y.2.1, Y.2.2.1, Y.2.2.2.1, Y.2.2.2.2.1, Y.2.2.2.2.2.1, Y.2.2.2.2.2.2.1, Y.2.2.2.2.2.2.2.1, Y.2.2.2.2.2.2.2.2.1, s)
def t_go (step : Nat → hS γ → hS γ) : Nat → Nat → hS γ → hS γ
  | 0, _, Y => Y
  | m + 1, j, Y => t_go step m (j + 1) (step j Y)
theorem t_go_s {step : Nat → hS γ → hS γ} {n j : Nat} {Y : hS γ} (h : j < n) : t_go step (n - j) j Y = t_go step (n - (j + 1)) (j + 1) (step j Y) := by
  rw [show n - j = (n - (j + 1)) + 1 by omega, t_go]
variable (bit : Nat × γ → Bool → Bool × (Nat × γ)) (fp : Nat → Nat × γ → Nat × (Nat × γ)) (fl : Nat → Nat → (Nat → Nat) → Nat → Nat × γ → Nat × (Nat → Nat) × (Nat × γ))
/-- the block j of a packet -/
def t_st (vs1 vs2 : Nat → Nat) (L y fr sz w h : Nat) (j : Nat) (Y : hS γ) : hS γ := t_blk bit fp fl vs1 vs2 (r_qq (2 * (fr + j / sz * sz)) w h (j % sz)) (m_lev w h + 1) L y (fr + j) (2 * (fr + j / sz * sz) + j % sz) Y
theorem t_st_eq {vs1 vs2 : Nat → Nat} {L y fr sz w h i e : Nat} {Y : hS γ} (he : e < sz) : t_st bit fp fl vs1 vs2 L y fr sz w h (i * sz + e) Y = t_blk bit fp fl vs1 vs2 (r_qq (2 * (fr + i * sz)) w h e) (m_lev w h + 1) L y (fr + i * sz + e) (fr + i * sz + (fr + i * sz + e)) Y := by
  obtain ⟨h1, h2⟩ := m_dm (y := i) he
  unfold t_st
  rw [h1, h2, show fr + (i * sz + e) = fr + i * sz + e by omega, show 2 * (fr + i * sz) + e = fr + i * sz + (fr + i * sz + e) by omega]
/-- a head, behind its first bit x -/
def t_h2 (vs1 vs2 : Nat → Nat) (L y fr sz nb w h : Nat) (x : Bool × (Nat × γ)) (Y : hS γ) : hS γ := if x.1 = true then t_go (t_st bit fp fl vs1 vs2 L y fr sz w h) (nb * sz) 0 (h_s x.2 Y) else h_s x.2 Y
def t_hd (vs1 vs2 : Nat → Nat) (L y fr sz nb w h : Nat) (Y : hS γ) : hS γ := t_h2 bit fp fl vs1 vs2 L y fr sz nb w h (bit Y.2.2.2.2.2.2.2.2.2 (m_any Y.1 L y fr (fr + nb * sz))) Y
/-- the packet k -/
def t_pk (vs1 vs2 : Nat → Nat) (pl sta bd wd ht : Nat → Nat) (L Rz k : Nat) (Y : hS γ) : hS γ :=
  t_hd bit fp fl vs1 vs2 L (pl (k * 4 + 0)) (sta (pl (k * 4 + 2) * Rz + pl (k * 4 + 1)) + pl (k * 4 + 3) * bd (pl (k * 4 + 2) * Rz + pl (k * 4 + 1)) * (wd (pl (k * 4 + 2) * Rz + pl (k * 4 + 1)) * ht (pl (k * 4 + 2) * Rz + pl (k * 4 + 1)))) (wd (pl (k * 4 + 2) * Rz + pl (k * 4 + 1)) * ht (pl (k * 4 + 2) * Rz + pl (k * 4 + 1))) (bd (pl (k * 4 + 2) * Rz + pl (k * 4 + 1))) (wd (pl (k * 4 + 2) * Rz + pl (k * 4 + 1))) (ht (pl (k * 4 + 2) * Rz + pl (k * 4 + 1))) Y
def t_it (pk : Nat → hS γ → hS γ) : Nat → hS γ → hS γ
  | 0, Y => Y
  | k + 1, Y => pk k (t_it pk k Y)
end TH
theorem t_go_V {N M : Nat} {step : Nat → hS wT → hS wT} (hs : ∀ j k Y, j < M → gdV N (k + 300) Y → gdV N k (step j Y)) : ∀ (m j k : Nat) (Y : hS wT), j + m ≤ M → gdV N (k + 300 * m) Y → gdV N k (t_go step m j Y)
  | 0, _, _, _, _, h => h
  | m + 1, j, k, Y, hj, h => by
    rw [t_go]
    exact t_go_V hs m (j + 1) k _ (by omega) (hs j (k + 300 * m) Y (by omega) (gdV_le h (by omega)))
theorem t_go_Q {N n : Nat} {step : Nat → hS rT → hS rT} (hs : ∀ j Y, gdQ N n Y → gdQ N n (step j Y)) : ∀ (m j : Nat) (Y : hS rT), gdQ N n Y → gdQ N n (t_go step m j Y)
  | 0, _, _, h => h
  | m + 1, j, Y, h => by
    rw [t_go]
    exact t_go_Q hs m (j + 1) _ (hs j Y h)
theorem m_lev3 (w h : Nat) : m_lev w h + 1 ≤ 3 := by have := m_lev_le w h; omega
theorem gdV_hd {ms : Bool} {vs1 vs2 : Nat → Nat} {N L y fr sz nb w h k : Nat} {Y : hS wT} (hy : y < 8) (hM : nb * sz ≤ 36) (hN : fr + nb * sz ≤ N) (hg : gdV N (k + 10801) Y) : gdV N k (t_hd (bitW ms) (fpW ms) (flW ms) vs1 vs2 L y fr sz nb w h Y) := by
  unfold t_hd t_h2
  have hb : okW (k + 10800) (bitW ms Y.2.2.2.2.2.2.2.2.2 (m_any Y.1 L y fr (fr + nb * sz))).2 := okW_bit hg.2.2.2.2.2.1 _
  split
  · exact t_go_V (M := nb * sz) (fun j k Y hj hY => gdV_blk (by omega) (m_lev3 w h) hy hY) _ _ _ _ (by omega) ⟨hg.1, hg.2.1, hg.2.2.1, hg.2.2.2.1, hg.2.2.2.2.1, okW_le hb (by omega), hg.2.2.2.2.2.2⟩
  · exact ⟨hg.1, hg.2.1, hg.2.2.1, hg.2.2.2.1, hg.2.2.2.2.1, okW_le hb (by omega), hg.2.2.2.2.2.2⟩
theorem gdQ_hd {f : Nat → Nat} {n : Nat} (hf : ∀ j, f j < 256) {vs1 vs2 : Nat → Nat} {N L y fr sz nb w h : Nat} {Y : hS rT} (hy : y < 8) (hg : gdQ N n Y) : gdQ N n (t_hd (bitR f n) (fpR f n) (flR f n) vs1 vs2 L y fr sz nb w h Y) := by
  unfold t_hd t_h2
  have hb : okR n (bitR f n Y.2.2.2.2.2.2.2.2.2 (m_any Y.1 L y fr (fr + nb * sz))).2 := okR_bit hf hg.2.2.2.2.2.1 _
  split
  · exact t_go_Q (fun j Y hY => gdQ_blk hf hy hY) _ _ _ ⟨hg.1, hg.2.1, hg.2.2.1, hg.2.2.2.1, hg.2.2.2.2.1, hb, hg.2.2.2.2.2.2⟩
  · exact ⟨hg.1, hg.2.1, hg.2.2.1, hg.2.2.2.1, hg.2.2.2.2.1, hb, hg.2.2.2.2.2.2⟩
theorem okW_wend {ms : Bool} {k : Nat} : ∀ {n : Nat} {s : wS}, okW (k + n) s → okW k (t_wend ms n s)
  | 0, _, h => h
  | n + 1, s, h => by
    rw [t_wend]
    split
    · exact okW_wend (okW_bit (k := k + n) h _)
    · exact okW_le h (by omega)
theorem okR_rend {f : Nat → Nat} {n : Nat} {s : rS} (hf : ∀ j, f j < 256) (h : okR n s) : okR n (t_rend f n s) := by
  unfold t_rend
  split
  · exact okR_bit (s := (s.1, s.2.1, s.2.2.1, 0)) hf ⟨Nat.zero_le _, h.2.1, h.2.2.1, h.2.2.2⟩ _
  · exact h
theorem okR_rbeg {n : Nat} {s : rS} (h : okR n s) : okR n (t_rbeg s) := ⟨Nat.zero_le _, by show 0 < 256; omega, h.2.2.1, h.2.2.2⟩
/-- a packet with its end (and, for the reader, its beginning) -/
def pkW (ms : Bool) (vs1 vs2 pl sta bd wd ht : Nat → Nat) (L Rz k : Nat) (Y : hS wT) : hS wT := h_s (t_wend ms 8 (t_pk (bitW ms) (fpW ms) (flW ms) vs1 vs2 pl sta bd wd ht L Rz k Y).2.2.2.2.2.2.2.2.2) (t_pk (bitW ms) (fpW ms) (flW ms) vs1 vs2 pl sta bd wd ht L Rz k Y)
def pkR (f : Nat → Nat) (n : Nat) (vs1 vs2 pl sta bd wd ht : Nat → Nat) (L Rz k : Nat) (Y : hS rT) : hS rT := h_s (t_rend f n (t_pk (bitR f n) (fpR f n) (flR f n) vs1 vs2 pl sta bd wd ht L Rz k (h_s (t_rbeg Y.2.2.2.2.2.2.2.2.2) Y)).2.2.2.2.2.2.2.2.2) (t_pk (bitR f n) (fpR f n) (flR f n) vs1 vs2 pl sta bd wd ht L Rz k (h_s (t_rbeg Y.2.2.2.2.2.2.2.2.2) Y))
/-- the places of a packet, and where its blocks are -/
theorem pl_fit {pr bd wd ht sta : Nat → Nat} {n s p : Nat} (h : shp sta pr bd wd ht n) (hs : s < n) (hp : p < pr s) : sta s + p * bd s * (wd s * ht s) + bd s * (wd s * ht s) ≤ sta n ∧ bd s * (wd s * ht s) ≤ 36 := by
  have h1 := h.1 s hs
  have h2 := h.2 s hs
  have h3 := shp_le h n (s + 1) (by omega) (Nat.le_refl _)
  have h4 : wd s * ht s ≤ 4 * 3 := Nat.mul_le_mul h2.2.2.1.2 h2.2.2.2.2
  have h5 : bd s * (wd s * ht s) ≤ 3 * (4 * 3) := Nat.mul_le_mul h2.2.1.2 h4
  have h6 : (p + 1) * (bd s * (wd s * ht s)) ≤ pr s * (bd s * (wd s * ht s)) := Nat.mul_le_mul_right _ hp
  rw [Nat.succ_mul] at h6
  rw [Nat.mul_assoc] at h1
  rw [Nat.mul_assoc]
  omega
theorem gdV_pk {ms : Bool} {vs1 vs2 pl sta pr bd wd ht : Nat → Nat} {N n L Rz k K : Nat} {Y : hS wT} (h : shp sta pr bd wd ht n) (hN : sta n ≤ N) (hs : pl (k * 4 + 2) * Rz + pl (k * 4 + 1) < n) (hp : pl (k * 4 + 3) < pr (pl (k * 4 + 2) * Rz + pl (k * 4 + 1))) (hy : pl (k * 4 + 0) < 8) (hg : gdV N (K + 10809) Y) : gdV N K (pkW ms vs1 vs2 pl sta bd wd ht L Rz k Y) := by
  have h1 := pl_fit h hs hp
  have h2 : gdV N (K + 8) (t_pk (bitW ms) (fpW ms) (flW ms) vs1 vs2 pl sta bd wd ht L Rz k Y) := gdV_hd hy h1.2 (Nat.le_trans h1.1 hN) (gdV_le hg (by omega))
  exact ⟨h2.1, h2.2.1, h2.2.2.1, h2.2.2.2.1, h2.2.2.2.2.1, okW_wend h2.2.2.2.2.2.1, h2.2.2.2.2.2.2⟩
theorem gdQ_beg {N n : Nat} {Y : hS rT} (hg : gdQ N n Y) : gdQ N n (h_s (t_rbeg Y.2.2.2.2.2.2.2.2.2) Y) := ⟨hg.1, hg.2.1, hg.2.2.1, hg.2.2.2.1, hg.2.2.2.2.1, okR_rbeg hg.2.2.2.2.2.1, hg.2.2.2.2.2.2⟩
theorem gdQ_pk {f : Nat → Nat} {z : Nat} (hf : ∀ j, f j < 256) {vs1 vs2 pl sta bd wd ht : Nat → Nat} {N L Rz k : Nat} {Y : hS rT} (hy : pl (k * 4 + 0) < 8) (hg : gdQ N z Y) : gdQ N z (pkR f z vs1 vs2 pl sta bd wd ht L Rz k Y) := by
  have h2 : gdQ N z (t_pk (bitR f z) (fpR f z) (flR f z) vs1 vs2 pl sta bd wd ht L Rz k (h_s (t_rbeg Y.2.2.2.2.2.2.2.2.2) Y)) := gdQ_hd hf hy (gdQ_beg hg)
  exact ⟨h2.1, h2.2.1, h2.2.2.1, h2.2.2.2.1, h2.2.2.2.2.1, okR_rend hf h2.2.2.2.2.2.1, h2.2.2.2.2.2.2⟩
theorem m_fill_le {c b n : Nat} {f : Nat → Nat} (hc : c ≤ b) : ∀ j, j < n → m_fill c n f j ≤ b := fun j hj => by
  unfold m_fill
  rw [if_pos hj]
  exact hc
theorem m_fill_le9 {c b n : Nat} {f : Nat → Nat} (hc : c ≤ b) (h : ∀ j, f j ≤ b) : ∀ j, m_fill c n f j ≤ b := fun j => by
  unfold m_fill
  split
  · exact hc
  · exact h j

abbrev rmD (k : Nat) : Room := { frames := 4 + k, cells := 0, slots := 0, locals := 60 + 60 * k }
abbrev rmN (k mc ms : Nat) : Room := { frames := 4 + k, cells := mc, slots := ms, locals := 60 + 60 * k }
abbrev tyL (cI cZ cL : ClassId) : List (ClassId × FieldType) := [(cI, .int), (cZ, .boolean), (cL, .long)]
theorem m_in {b L nb y : Nat} (h : b < nb) (hy : y < L) : b * L + y < nb * L := by
  have h1 : (b + 1) * L ≤ nb * L := Nat.mul_le_mul_right L h
  rw [Nat.add_mul, Nat.one_mul] at h1
  omega
/-- the least layer in which the block has passes; L if there is none -/
def m_fst (ps : Nat → Nat) (b L : Nat) : Nat → Nat
  | 0 => L
  | k + 1 => if 0 < ps (b * L + (L - (k + 1))) then L - (k + 1) else m_fst ps b L k
def m_first (ps : Nat → Nat) (b L : Nat) : Nat := m_fst ps b L L
theorem m_fst_skip {ps : Nat → Nat} {b L : Nat} : ∀ (d i : Nat), i + d ≤ L → (∀ j, i ≤ j → j < i + d → ps (b * L + j) = 0) → m_fst ps b L (L - i) = m_fst ps b L (L - (i + d))
  | 0, i, _, _ => rfl
  | d + 1, i, h, hz => by
    have e : L - i = (L - (i + 1)) + 1 := by omega
    rw [e, m_fst, show L - (L - (i + 1) + 1) = i by omega, hz i (Nat.le_refl _) (by omega), if_neg (Nat.lt_irrefl 0), m_fst_skip d (i + 1) (by omega) (fun j h1 h2 => hz j (by omega) (by omega)), show i + 1 + d = i + (d + 1) by omega]
theorem m_first_at {ps : Nat → Nat} {b L i : Nat} (hz : ∀ j, j < i → ps (b * L + j) = 0) (hi : i < L) (hp : 0 < ps (b * L + i)) : m_first ps b L = i := by
  have h := m_fst_skip (ps := ps) (b := b) (L := L) i 0 (by omega) (fun j _ h => hz j (by omega))
  rw [Nat.sub_zero, Nat.zero_add] at h
  rw [m_first, h, show L - i = (L - (i + 1)) + 1 by omega, m_fst, show L - (L - (i + 1) + 1) = i by omega, if_pos hp]
theorem m_first_no {ps : Nat → Nat} {b L : Nat} (hz : ∀ j, j < L → ps (b * L + j) = 0) : m_first ps b L = L := by
  have h := m_fst_skip (ps := ps) (b := b) (L := L) L 0 (by omega) (fun j _ h => hz j (by omega))
  rw [Nat.sub_zero, Nat.zero_add, Nat.sub_self] at h
  rw [m_first, h]
  rfl
/-- has a block from f on, below t, passes in the layer y -/
def m_any (ps : Nat → Nat) (L y f t : Nat) : Bool := (List.range (t - f)).any (fun d => decide (0 < ps ((f + d) * L + y)))
theorem m_any_t {ps : Nat → Nat} {L y f t i : Nat} (h1 : f ≤ i) (h2 : i < t) (hp : 0 < ps (i * L + y)) : m_any ps L y f t = true := by
  unfold m_any
  rw [List.any_eq_true]
  exact ⟨i - f, List.mem_range.mpr (by omega), by rw [show f + (i - f) = i by omega]; exact decide_eq_true hp⟩
theorem m_any_f {ps : Nat → Nat} {L y f t : Nat} (hz : ∀ j, f ≤ j → j < t → ps (j * L + y) = 0) : m_any ps L y f t = false := by
  unfold m_any
  rw [List.any_eq_false]
  intro d hd
  have := List.mem_range.mp hd
  rw [hz (f + d) (by omega) (by omega)]
  simp
/-- the first block of each slot, for the slots up to n -/
def m_st (pr bd wd ht : Nat → Nat) : Nat → Nat
  | 0 => 0
  | k + 1 => m_st pr bd wd ht k + pr k * bd k * (wd k * ht k)
def m_starts (pr bd wd ht sta : Nat → Nat) (n : Nat) : Nat → Nat := fun k => if k ≤ n then m_st pr bd wd ht k else sta k
theorem m_starts_0 {pr bd wd ht sta : Nat → Nat} (h : sta 0 = 0) : m_starts pr bd wd ht sta 0 = sta := by
  funext k
  unfold m_starts
  by_cases hk : k ≤ 0
  · rw [if_pos hk, show k = 0 by omega, h]; rfl
  · rw [if_neg hk]
theorem m_starts_s {pr bd wd ht sta : Nat → Nat} {i : Nat} : va_up (m_starts pr bd wd ht sta i) (i + 1) (m_starts pr bd wd ht sta i i + pr i * bd i * (wd i * ht i)) = m_starts pr bd wd ht sta (i + 1) := by
  funext k
  by_cases hk : k = i + 1
  · subst hk
    rw [va_up_self]
    simp [m_starts, m_st]
  · rw [va_up_ne _ _ hk]
    unfold m_starts
    by_cases h : k ≤ i
    · rw [if_pos h, if_pos (by omega)]
    · rw [if_neg h, if_neg (by omega)]
/-- the first n places hold c -/
def m_fill {α : Type} (c : α) (n : Nat) (f : Nat → α) : Nat → α := fun j => if j < n then c else f j
theorem m_fill_0 {α : Type} {c : α} {f : Nat → α} : m_fill c 0 f = f := by
  funext j
  simp [m_fill]
theorem m_fill_s {α : Type} {c : α} {f : Nat → α} {n : Nat} : va_up (m_fill c n f) n c = m_fill c (n + 1) f := by
  funext j
  unfold va_up m_fill
  by_cases h : j = n
  · rw [if_pos h, if_pos (by omega)]
  · rw [if_neg h]
    by_cases h2 : j < n
    · rw [if_pos h2, if_pos (by omega)]
    · rw [if_neg h2, if_neg (by omega)]
/-- the least values above: each place gives its value on to the place above it -/
def m_gath (g : Nat → Option Nat) (vs : Nat → Nat) : Nat → Nat → Nat
  | 0 => vs
  | i + 1 => match g i with
    | none => m_gath g vs i
    | some p => va_up (m_gath g vs i) p (min (m_gath g vs i p) (m_gath g vs i i))
theorem m_gath_lt {g : Nat → Option Nat} {vs : Nat → Nat} {B : Nat} (h : ∀ j, vs j < B) : ∀ (i j : Nat), m_gath g vs i j < B
  | 0, j => h j
  | i + 1, j => by
    unfold m_gath
    cases hg : g i with
    | none => exact m_gath_lt h i j
    | some p =>
      show va_up _ _ _ j < B
      unfold va_up
      by_cases hj : j = p
      · rw [if_pos hj]
        exact Nat.lt_of_le_of_lt (Nat.min_le_left _ _) (m_gath_lt h i p)
      · rw [if_neg hj]
        exact m_gath_lt h i j
theorem m_gath_n {g : Nat → Option Nat} {vs : Nat → Nat} {i : Nat} (h : oI (g i) = -1) (hg : ∀ p, g i = some p → p < 2 ^ 31) : m_gath g vs (i + 1) = m_gath g vs i := by
  rw [m_gath]
  cases he : g i with
  | none => rfl
  | some p =>
    rw [he] at h
    have h1 : nI p = -1 := h
    have h2 := nI_toInt (hg p he)
    rw [h1] at h2
    exact absurd h2 (by simp)
theorem m_gath_s {g : Nat → Option Nat} {vs : Nat → Nat} {i p : Nat} (h : g i = some p) : m_gath g vs (i + 1) = va_up (m_gath g vs i) p (min (m_gath g vs i p) (m_gath g vs i i)) := by
  rw [m_gath, h]
/-- the writer's byte under way, with one bit more -/
def m_wc (cu fr : Nat) (d : Bool) : Nat := cu ||| b2n d * 2 ^ (fr - 1)
theorem m_b2lt {d : Bool} {k : Nat} (h : k < 8) : b2n d * 2 ^ k < 2 ^ 32 := by
  have h1 : 2 ^ k < 2 ^ 8 := Nat.pow_lt_pow_right (by omega) h
  cases d
  · simp [b2n]
  · simp only [b2n, if_true, Nat.one_mul]; omega
theorem m_wc_lt {cu fr : Nat} {d : Bool} (h : cu < 256) (h2 : fr ≤ 8) : m_wc cu fr d < 256 := by
  have h1 : 2 ^ (fr - 1) < 2 ^ 8 := Nat.pow_lt_pow_right (by omega) (by omega)
  unfold m_wc
  refine Nat.or_lt_two_pow (n := 8) h ?_
  cases d
  · simp [b2n]
  · simp only [b2n, if_true, Nat.one_mul]; exact h1
/-- the writer, one bit further: the row, how many bytes, the byte under way, its free bits -/
def m_wb (ms : Bool) (f : Nat → Nat) (sz cu fr : Nat) (d : Bool) : (Nat → Nat) × Nat × Nat × Nat :=
  if fr - 1 = 0 then ((if ms = false ∧ sz < 6000 then va_up f sz (m_wc cu fr d) else f), sz + 1, 0, (if m_wc cu fr d = 255 then 7 else 8)) else (f, sz, m_wc cu fr d, fr - 1)
/-- how many bits the byte behind cu has -/
def m_rl (cu : Nat) : Nat := if cu = 255 then 7 else 8
/-- the reader, before a bit: the fault, how many bytes it went over, the byte under way, its bits left -/
def m_rf (f : Nat → Nat) (n flt rc cu lf : Nat) : Nat × Nat × Nat × Nat :=
  if flt = 0 ∧ lf = 0 then (if n ≤ rc then (1, rc, cu, lf) else if cu = 255 ∧ 127 < f rc then (2, rc, cu, lf) else (flt, rc + 1, f rc, m_rl cu)) else (flt, rc, cu, lf)
def m_rb (f : Nat → Nat) (n flt rc cu lf : Nat) : Bool × Nat × Nat × Nat × Nat :=
  if (m_rf f n flt rc cu lf).1 = 0 then (decide ((m_rf f n flt rc cu lf).2.2.1 / 2 ^ ((m_rf f n flt rc cu lf).2.2.2 - 1) &&& 1 = 1), (m_rf f n flt rc cu lf).1, (m_rf f n flt rc cu lf).2.1, (m_rf f n flt rc cu lf).2.2.1, (m_rf f n flt rc cu lf).2.2.2 - 1) else (false, m_rf f n flt rc cu lf)
def m_most (Rz : Nat) : Nat := min (400 + 2 * (1 + 3 * (Rz - 1))) (3 * (1 + 3 * (Rz - 1)) * 4 * 4 * 3)
def m_slotOf (C Rz : Nat) (x y : Int32) : Int32 := if (nI 0 ≤ x ∧ x ≤ nI (C - 1)) ∧ (nI 0 ≤ y ∧ y ≤ nI (Rz - 1)) then x * nI Rz + y else -1
def m_has (p b n : Nat) (x y z : Int32) : Bool := decide (nI 0 ≤ x ∧ x ≤ nI (p - 1)) && (decide (nI 0 ≤ y ∧ y ≤ nI (b - 1)) && decide (nI 0 ≤ z ∧ z ≤ nI (n - 1)))
/-! the walk over the bits, for any kind of bits -/
/-- the writer's state: the fault, the row, how many bytes, the byte under way, its free bits -/
abbrev wS : Type := Nat × (Nat → Nat) × Nat × Nat × Nat
/-- the reader's state: the fault, how far, the byte under way, its bits left -/
abbrev rS : Type := Nat × Nat × Nat × Nat
def bitW (ms : Bool) (s : wS) (d : Bool) : Bool × wS := (d, s.1, m_wb ms s.2.1 s.2.2.1 s.2.2.2.1 s.2.2.2.2 d)
def bitR (f : Nat → Nat) (n : Nat) (s : rS) (_ : Bool) : Bool × rS := m_rb f n s.1 s.2.1 s.2.2.1 s.2.2.2
/-- the writer can take k bits more -/
def okW (k : Nat) (s : wS) : Prop := 1 ≤ s.2.2.2.2 ∧ s.2.2.2.2 ≤ 8 ∧ s.2.2.2.1 < 256 ∧ s.2.2.1 + k < 2 ^ 30 ∧ s.1 < 4
def okR (n : Nat) (s : rS) : Prop := s.2.2.2 ≤ 8 ∧ s.2.2.1 < 256 ∧ s.2.1 ≤ n ∧ s.1 < 4
theorem okW_le {j k : Nat} {s : wS} (h : okW k s) (hj : j ≤ k) : okW j s := ⟨h.1, h.2.1, h.2.2.1, by have := h.2.2.2.1; omega, h.2.2.2.2⟩
theorem okW_bit {ms : Bool} {k : Nat} {s : wS} (h : okW (k + 1) s) (d : Bool) : okW k (bitW ms s d).2 := by
  obtain ⟨h1, h2, h3, h4, h5⟩ := h
  have hc := m_wc_lt (d := d) h3 h2
  unfold bitW m_wb
  by_cases h0 : s.2.2.2.2 - 1 = 0
  · rw [if_pos h0]
    refine ⟨?_, ?_, by show 0 < 256; omega, by show s.2.2.1 + 1 + k < 2 ^ 30; omega, h5⟩
    · show 1 ≤ if _ then 7 else 8; split <;> omega
    · show (if _ then 7 else 8) ≤ 8; split <;> omega
  · rw [if_neg h0]
    exact ⟨by show 1 ≤ s.2.2.2.2 - 1; omega, by show s.2.2.2.2 - 1 ≤ 8; omega, hc, by show s.2.2.1 + k < 2 ^ 30; omega, h5⟩
theorem okR_bit {f : Nat → Nat} {n : Nat} {s : rS} (hf : ∀ j, f j < 256) (h : okR n s) (d : Bool) : okR n (bitR f n s d).2 := by
  obtain ⟨h1, h2, h3, h4⟩ := h
  have hq : okR n (m_rf f n s.1 s.2.1 s.2.2.1 s.2.2.2) := by
    unfold m_rf
    by_cases a : s.1 = 0 ∧ s.2.2.2 = 0
    · rw [if_pos a]
      by_cases b : n ≤ s.2.1
      · rw [if_pos b]; exact ⟨h1, h2, h3, by show 1 < 4; omega⟩
      · rw [if_neg b]
        by_cases c : s.2.2.1 = 255 ∧ 127 < f s.2.1
        · rw [if_pos c]; exact ⟨h1, h2, h3, by show 2 < 4; omega⟩
        · rw [if_neg c]
          exact ⟨by show m_rl _ ≤ 8; unfold m_rl; split <;> omega, hf _, by show s.2.1 + 1 ≤ n; omega, h4⟩
    · rw [if_neg a]; exact ⟨h1, h2, h3, h4⟩
  unfold bitR m_rb
  split
  · exact ⟨by show _ - 1 ≤ 8; have := hq.1; omega, hq.2.1, hq.2.2.1, hq.2.2.2⟩
  · exact hq
section TG
variable {β : Type} (bit : β → Bool → Bool × β)
/-- so many bits, the highest first, behind the value so far -/
def t_num (due : Nat → Bool) : Nat → Nat → β → Nat × β
  | 0, v, s => (v, s)
  | i + 1, v, s => t_num due i (v * 2 ^ 1 ||| b2n (bit s (due i)).1) (bit s (due i)).2
/-- a node is told up to en -/
def t_lp (v nd en : Nat) : Nat → Nat → (Nat → Bool) → β → Nat × (Nat → Bool) × β
  | 0, lw, dn, s => (lw, dn, s)
  | i + 1, lw, dn, s => if lw < en ∧ dn nd = false then (if (bit s (decide (v = lw))).1 = true then (lw, va_up dn nd true, (bit s (decide (v = lw))).2) else t_lp v nd en i (lw + 1) dn (bit s (decide (v = lw))).2) else (lw, dn, s)
abbrev tX (β : Type) : Type := Nat × (Nat → Nat) × (Nat → Bool) × β
def t_nd (vs : Nat → Nat) (en : Nat) (x : tX β) (nd : Nat) : tX β :=
  ((t_lp bit (vs nd) nd en (en - max x.1 (x.2.1 nd)) (max x.1 (x.2.1 nd)) x.2.2.1 x.2.2.2).1, va_up x.2.1 nd (t_lp bit (vs nd) nd en (en - max x.1 (x.2.1 nd)) (max x.1 (x.2.1 nd)) x.2.2.1 x.2.2.2).1, (t_lp bit (vs nd) nd en (en - max x.1 (x.2.1 nd)) (max x.1 (x.2.1 nd)) x.2.2.1 x.2.2.2).2.1, (t_lp bit (vs nd) nd en (en - max x.1 (x.2.1 nd)) (max x.1 (x.2.1 nd)) x.2.2.1 x.2.2.2).2.2)
/-- the nodes q (i - 1) .. q 0, from the top one down -/
def t_rows (vs : Nat → Nat) (en : Nat) (q : Nat → Nat) : Nat → tX β → tX β
  | 0, x => x
  | i + 1, x => t_rows vs en q i (t_nd bit vs en x (q i))
theorem t_lp_stop {v nd en i lw : Nat} {dn : Nat → Bool} {s : β} (h : ¬ (lw < en ∧ dn nd = false)) : t_lp bit v nd en i lw dn s = (lw, dn, s) := by
  cases i with
  | zero => rfl
  | succ i => rw [t_lp, if_neg h]
end TG
def m_fail (flt k : Nat) : Nat := if flt = 0 then k else flt
def m_due (d : Nat) : Nat → Bool := fun i => decide (d / 2 ^ i &&& 1 = 1)
theorem m_sh {v k i : Nat} (h : v < 2 ^ (k - (i + 1))) (hk : k ≤ 24) : v * 2 ^ 1 < 2 ^ 32 := by
  have h1 : 2 ^ (k - (i + 1)) ≤ 2 ^ 24 := Nat.pow_le_pow_right (by omega) (by omega)
  omega
theorem m_numlt {v k i : Nat} {b : Bool} (h : v < 2 ^ (k - (i + 1))) (hi : i + 1 ≤ k) : v * 2 ^ 1 ||| b2n b < 2 ^ (k - i) := by
  have e : k - i = (k - (i + 1)) + 1 := by omega
  rw [e]
  have h2 : 2 ^ (k - (i + 1) + 1) = 2 ^ (k - (i + 1)) * 2 := Nat.pow_succ ..
  refine Nat.or_lt_two_pow (by omega) ?_
  have h3 : 0 < 2 ^ (k - (i + 1)) := Nat.pow_pos (by omega)
  cases b
  · show 0 < _; omega
  · show 1 < _; omega
def m_beg (ms : Bool) (fb : Nat → Nat) (k sz : Nat) : Nat → Nat := if ms = false then va_up fb k sz else fb
/-- the writer's byte is filled up -/
def t_wend (ms : Bool) : Nat → wS → wS
  | 0, s => s
  | n + 1, s => if s.2.2.2.2 < 8 then t_wend ms n (bitW ms s false).2 else s
/-- the reader takes the byte behind a 255 in -/
def t_rend (f : Nat → Nat) (n : Nat) (s : rS) : rS := if s.2.2.1 = 255 then (bitR f n (s.1, s.2.1, s.2.2.1, 0) false).2 else s
theorem t_wend_stop {ms : Bool} {n : Nat} {s : wS} (h : n = 0 ∨ 8 ≤ s.2.2.2.2) : t_wend ms n s = s := by
  cases n with
  | zero => rfl
  | succ n => rw [t_wend, if_neg (by omega)]
def m_pre (q : Nat → Nat) (i : Nat) (pa : Nat → Nat) : Nat → Nat := fun j => if j < i then q j else pa j
theorem m_pre_0 {q pa : Nat → Nat} : m_pre q 0 pa = pa := by funext j; simp [m_pre]
theorem m_pre_s {q pa : Nat → Nat} {i : Nat} : va_up (m_pre q i pa) i (q i) = m_pre q (i + 1) pa := by
  funext j
  unfold va_up m_pre
  by_cases h : j = i
  · rw [if_pos h, if_pos (by omega), h]
  · rw [if_neg h]
    by_cases h2 : j < i
    · rw [if_pos h2, if_pos (by omega)]
    · rw [if_neg h2, if_neg (by omega)]
theorem m_pre_at {q pa : Nat → Nat} {i k : Nat} (h : k < i) : m_pre q i pa k = q k := by unfold m_pre; rw [if_pos h]
theorem nI_nm1 {n : Nat} (h : n < 2 ^ 31) : ¬ oI (some n) = -1 := by
  intro q
  have h1 : nI n = -1 := q
  have h2 := nI_toInt h
  rw [h1] at h2
  exact absurd h2 (by simp)
theorem b2n_le (b : Bool) : b2n b ≤ 1 := by cases b <;> decide
theorem m_up_lt {f : Nat → Nat} {k v B : Nat} (h : ∀ j, f j < B) (hv : v < B) : ∀ j, va_up f k v j < B := by
  intro j
  unfold va_up
  split
  · exact hv
  · exact h j
theorem t_lp_t {β : Type} (bit : β → Bool → Bool × β) {v nd en lw : Nat} {dn : Nat → Bool} {s : β} (h1 : lw < en) (h2 : dn nd = false) (h3 : (bit s (decide (v = lw))).1 = true) : t_lp bit v nd en (en - lw) lw dn s = t_lp bit v nd en (en - lw) lw (va_up dn nd true) (bit s (decide (v = lw))).2 := by
  rw [t_lp_stop bit (lw := lw) (dn := va_up dn nd true) (fun h => by rw [va_up_self] at h; cases h.2)]
  rw [show en - lw = (en - (lw + 1)) + 1 by omega, t_lp, if_pos ⟨h1, h2⟩, if_pos h3]
theorem t_lp_f {β : Type} (bit : β → Bool → Bool × β) {v nd en lw : Nat} {dn : Nat → Bool} {s : β} (h1 : lw < en) (h2 : dn nd = false) (h3 : (bit s (decide (v = lw))).1 = false) : t_lp bit v nd en (en - lw) lw dn s = t_lp bit v nd en (en - (lw + 1)) (lw + 1) dn (bit s (decide (v = lw))).2 := by
  rw [show en - lw = (en - (lw + 1)) + 1 by omega, t_lp, if_pos ⟨h1, h2⟩, if_neg (by rw [h3]; decide)]
/-- a fault is noted, if there is none yet -/
def t_fl {γ : Type} (s : Nat × γ) (k : Nat) : Nat × γ := (m_fail s.1 k, s.2)
theorem or_b2n (v : Nat) (b : Bool) : v * 2 ^ 1 ||| b2n b = 2 * v + b2n b := by
  have h : b2n b < 2 ^ 1 := by cases b <;> decide
  have := Nat.shiftLeft_add_eq_or_of_lt h v
  rw [Nat.shiftLeft_eq] at this
  omega
theorem t_numW_val {ms : Bool} {d : Nat} : ∀ (i v : Nat) (s : wS), (t_num (bitW ms) (m_due d) i v s).1 = v * 2 ^ i + d % 2 ^ i
  | 0, v, s => by simp [t_num, Nat.mod_one]
  | i + 1, v, s => by
    rw [t_num, t_numW_val i, or_b2n]
    have h1 : b2n (bitW ms s (m_due d i)).1 = d / 2 ^ i % 2 := by
      show b2n (decide (d / 2 ^ i &&& 1 = 1)) = _
      rw [Nat.and_one_is_mod]
      rcases Nat.mod_two_eq_zero_or_one (d / 2 ^ i) with h | h <;> rw [h] <;> rfl
    rw [h1, Nat.pow_succ, Nat.mod_mul, Nat.add_mul, Nat.mul_comm 2 v, Nat.mul_assoc, Nat.mul_comm (2 ^ i) 2, Nat.mul_comm (2 ^ i) (d / 2 ^ i % 2)]
    omega
section TP
variable {β : Type} (bit : β → Bool → Bool × β)
def t_p5 (f5 f7 : Nat → Bool) (s : β) : Nat × β := if (t_num bit f5 5 0 s).1 < 31 then (6 + (t_num bit f5 5 0 s).1, (t_num bit f5 5 0 s).2) else (37 + (t_num bit f7 7 0 (t_num bit f5 5 0 s).2).1, (t_num bit f7 7 0 (t_num bit f5 5 0 s).2).2)
def t_p2 (f2 f5 f7 : Nat → Bool) (s : β) : Nat × β := if (t_num bit f2 2 0 s).1 < 3 then (3 + (t_num bit f2 2 0 s).1, (t_num bit f2 2 0 s).2) else t_p5 bit f5 f7 (t_num bit f2 2 0 s).2
/-- how many passes -/
def t_pass (d1 d2 : Bool) (f2 f5 f7 : Nat → Bool) (s : β) : Nat × β := if (bit s d1).1 = false then (1, (bit s d1).2) else if (bit (bit s d1).2 d2).1 = false then (2, (bit (bit s d1).2 d2).2) else t_p2 bit f2 f5 f7 (bit (bit s d1).2 d2).2
/-- how wide the length is -/
def t_wid (due : Nat → Bool) : Nat → Nat → β → Nat × β
  | 0, w, s => (w, s)
  | n + 1, w, s => if w ≤ 24 then (if (bit s (due w)).1 = true then t_wid due n (w + 1) (bit s (due w)).2 else (w, (bit s (due w)).2)) else (w, s)
theorem t_wid_stop {due : Nat → Bool} {n w : Nat} {s : β} (h : 24 < w) : t_wid bit due n w s = (w, s) := by
  cases n with
  | zero => rfl
  | succ n => rw [t_wid, if_neg (by omega)]
theorem t_wid_t {due : Nat → Bool} {w : Nat} {s : β} (h : w ≤ 24) (h2 : (bit s (due w)).1 = true) : t_wid bit due (25 - w) w s = t_wid bit due (25 - (w + 1)) (w + 1) (bit s (due w)).2 := by
  rw [show 25 - w = (25 - (w + 1)) + 1 by omega, t_wid, if_pos h, if_pos h2]
theorem t_wid_f {due : Nat → Bool} {w : Nat} {s : β} (h : w ≤ 24) (h2 : (bit s (due w)).1 = false) : t_wid bit due (25 - w) w s = (w, (bit s (due w)).2) := by
  rw [show 25 - w = (25 - (w + 1)) + 1 by omega, t_wid, if_pos h, if_neg (by rw [h2]; decide)]
end TP
def m_pw (c : Nat) : Nat → Nat → Nat
  | 0, p => p
  | n + 1, p => if 2 * 2 ^ p ≤ c then m_pw c n (p + 1) else p
/-- the greatest power with 2 ^ power not above c -/
def m_pow (c : Nat) : Nat := m_pw c 8 0
theorem m_pw_stop {c n p : Nat} (h : n = 0 ∨ c < 2 * 2 ^ p) : m_pw c n p = p := by
  cases n with
  | zero => rfl
  | succ n => rw [m_pw, if_neg (by omega)]
theorem m_pw_s {c p : Nat} (hp : p < 8) (h : 2 * 2 ^ p ≤ c) : m_pw c (8 - p) p = m_pw c (8 - (p + 1)) (p + 1) := by
  rw [show 8 - p = (8 - (p + 1)) + 1 by omega, m_pw, if_pos h]
theorem m_pw_le {c : Nat} : ∀ (n p : Nat), m_pw c n p ≤ p + n
  | 0, p => Nat.le_refl _
  | n + 1, p => by
    rw [m_pw]
    split
    · have := m_pw_le (c := c) n (p + 1); omega
    · omega
theorem m_pow_le (c : Nat) : m_pow c ≤ 8 := m_pw_le 8 0
theorem okW_num {ms : Bool} {k : Nat} : ∀ {i : Nat} {s : wS}, okW (k + i) s → ∀ (due : Nat → Bool) (v : Nat), okW k (t_num (bitW ms) due i v s).2
  | 0, _, h, _, _ => h
  | i + 1, _, h, due, _ => okW_num (i := i) (okW_bit (k := k + i) h _) due _
theorem okR_num {f : Nat → Nat} {n : Nat} (hf : ∀ j, f j < 256) {s : rS} (h : okR n s) (due : Nat → Bool) : ∀ (i v : Nat), okR n (t_num (bitR f n) due i v s).2 := by
  intro i
  induction i generalizing s with
  | zero => intro v; exact h
  | succ i ih => intro v; exact ih (okR_bit hf h _) _
theorem t_num_lt {β : Type} (bit : β → Bool → Bool × β) (due : Nat → Bool) : ∀ (i v : Nat) (s : β), (t_num bit due i v s).1 < (v + 1) * 2 ^ i
  | 0, v, s => by show v < _; omega
  | i + 1, v, s => by
    have := t_num_lt bit due i (v * 2 ^ 1 ||| b2n (bit s (due i)).1) (bit s (due i)).2
    rw [t_num]
    refine Nat.lt_of_lt_of_le this ?_
    rw [or_b2n, Nat.pow_succ]
    have h := b2n_le (bit s (due i)).1
    calc (2 * v + b2n (bit s (due i)).1 + 1) * 2 ^ i ≤ (2 * (v + 1)) * 2 ^ i := Nat.mul_le_mul_right _ (by omega)
      _ = (v + 1) * (2 ^ i * 2) := by rw [Nat.mul_comm 2 (v + 1), Nat.mul_assoc, Nat.mul_comm 2 (2 ^ i)]
/-- the reader at a head's beginning -/
def t_rbeg (s : rS) : rS := (s.1, s.2.1, 0, 0)
/-- the length: the answer, how far the lengths have grown, the state -/
def t_len {γ : Type} (bit : Nat × γ → Bool → Bool × (Nat × γ)) (due dn : Nat → Bool) (c : Nat) (gr : Nat → Nat) (b : Nat) (s : Nat × γ) : Nat × (Nat → Nat) × (Nat × γ) :=
  if (t_wid bit due (25 - (gr b + m_pow c)) (gr b + m_pow c) s).1 ≤ 24 then ((t_num bit dn (t_wid bit due (25 - (gr b + m_pow c)) (gr b + m_pow c) s).1 0 (t_wid bit due (25 - (gr b + m_pow c)) (gr b + m_pow c) s).2).1, va_up gr b ((t_wid bit due (25 - (gr b + m_pow c)) (gr b + m_pow c) s).1 - m_pow c), (t_num bit dn (t_wid bit due (25 - (gr b + m_pow c)) (gr b + m_pow c) s).1 0 (t_wid bit due (25 - (gr b + m_pow c)) (gr b + m_pow c) s).2).2)
  else (0, gr, t_fl (t_wid bit due (25 - (gr b + m_pow c)) (gr b + m_pow c) s).2 3)
theorem lt16 {d w : Nat} (h : 0 < d / 2 ^ w) (hd : d < 2 ^ 16) : w < 16 := by
  rcases Nat.lt_or_ge w 16 with q | q
  · exact q
  · have h1 : 2 ^ 16 ≤ 2 ^ w := Nat.pow_le_pow_right (by omega) q
    rw [Nat.div_eq_of_lt (by omega)] at h
    exact absurd h (Nat.lt_irrefl 0)
abbrev wT : Type := (Nat → Nat) × Nat × Nat × Nat
abbrev rT : Type := Nat × Nat × Nat
/-- what a walk over the heads moves: passes, lengths, zeros; growths, begun; lows and done of the two kinds of trees; the bits -/
abbrev hS (γ : Type) : Type := (Nat → Nat) × (Nat → Nat) × (Nat → Nat) × (Nat → Nat) × (Nat → Bool) × (Nat → Nat) × (Nat → Bool) × (Nat → Nat) × (Nat → Bool) × (Nat × γ)
section TB
variable {γ : Type}
def t_z (x : tX (Nat × γ)) (le : Nat) : Nat × γ := if x.2.2.1 le = true then x.2.2.2 else t_fl x.2.2.2 3
/-- passes and length of a block that comes -/
def t_b2 (fp : Nat → Nat × γ → Nat × (Nat × γ)) (fl : Nat → Nat → (Nat → Nat) → Nat → Nat × γ → Nat × (Nat → Nat) × (Nat × γ)) (L y b : Nat) (X : hS γ) : hS γ :=
  (va_up X.1 (b * L + y) (fp (X.1 (b * L + y)) X.2.2.2.2.2.2.2.2.2).1, va_up X.2.1 (b * L + y) (fl (fp (X.1 (b * L + y)) X.2.2.2.2.2.2.2.2.2).1 (X.2.1 (b * L + y)) X.2.2.2.1 b (fp (X.1 (b * L + y)) X.2.2.2.2.2.2.2.2.2).2).1, X.2.2.1,
   (fl (fp (X.1 (b * L + y)) X.2.2.2.2.2.2.2.2.2).1 (X.2.1 (b * L + y)) X.2.2.2.1 b (fp (X.1 (b * L + y)) X.2.2.2.2.2.2.2.2.2).2).2.1, X.2.2.2.2.1, X.2.2.2.2.2.1, X.2.2.2.2.2.2.1, X.2.2.2.2.2.2.2.1, X.2.2.2.2.2.2.2.2.1, (fl (fp (X.1 (b * L + y)) X.2.2.2.2.2.2.2.2.2).1 (X.2.1 (b * L + y)) X.2.2.2.1 b (fp (X.1 (b * L + y)) X.2.2.2.2.2.2.2.2.2).2).2.2)
theorem t_b2_eq {fp : Nat → Nat × γ → Nat × (Nat × γ)} {fl : Nat → Nat → (Nat → Nat) → Nat → Nat × γ → Nat × (Nat → Nat) × (Nat × γ)} {L y b : Nat} {X : hS γ} {s3 : Nat × (Nat × γ)} {s4 : Nat × (Nat → Nat) × (Nat × γ)} (h3 : s3 = fp (X.1 (b * L + y)) X.2.2.2.2.2.2.2.2.2) (h4 : s4 = fl s3.1 (X.2.1 (b * L + y)) X.2.2.2.1 b s3.2) :
    t_b2 fp fl L y b X = (va_up X.1 (b * L + y) s3.1, va_up X.2.1 (b * L + y) s4.1, X.2.2.1, s4.2.1, X.2.2.2.2.1, X.2.2.2.2.2.1, X.2.2.2.2.2.2.1, X.2.2.2.2.2.2.2.1, X.2.2.2.2.2.2.2.2.1, s4.2.2) := by
  subst h3; subst h4; rfl
/-- a block is told -/
def t_blk (bit : Nat × γ → Bool → Bool × (Nat × γ)) (fp : Nat → Nat × γ → Nat × (Nat × γ)) (fl : Nat → Nat → (Nat → Nat) → Nat → Nat × γ → Nat × (Nat → Nat) × (Nat × γ)) (vs1 vs2 q : Nat → Nat) (rw L y b le : Nat) (X : hS γ) : hS γ :=
  if X.2.2.2.2.1 b = true then
    (if (bit X.2.2.2.2.2.2.2.2.2 (decide (0 < X.1 (b * L + y)))).1 = false then (X.1, X.2.1, X.2.2.1, X.2.2.2.1, X.2.2.2.2.1, X.2.2.2.2.2.1, X.2.2.2.2.2.2.1, X.2.2.2.2.2.2.2.1, X.2.2.2.2.2.2.2.2.1, (bit X.2.2.2.2.2.2.2.2.2 (decide (0 < X.1 (b * L + y)))).2)
    else t_b2 fp fl L y b (X.1, X.2.1, X.2.2.1, X.2.2.2.1, X.2.2.2.2.1, X.2.2.2.2.2.1, X.2.2.2.2.2.2.1, X.2.2.2.2.2.2.2.1, X.2.2.2.2.2.2.2.2.1, (bit X.2.2.2.2.2.2.2.2.2 (decide (0 < X.1 (b * L + y)))).2))
  else if (t_rows bit vs1 (y + 1) q rw (0, X.2.2.2.2.2.1, X.2.2.2.2.2.2.1, X.2.2.2.2.2.2.2.2.2)).2.2.1 le = false then
    (X.1, X.2.1, X.2.2.1, X.2.2.2.1, X.2.2.2.2.1, (t_rows bit vs1 (y + 1) q rw (0, X.2.2.2.2.2.1, X.2.2.2.2.2.2.1, X.2.2.2.2.2.2.2.2.2)).2.1, (t_rows bit vs1 (y + 1) q rw (0, X.2.2.2.2.2.1, X.2.2.2.2.2.2.1, X.2.2.2.2.2.2.2.2.2)).2.2.1, X.2.2.2.2.2.2.2.1, X.2.2.2.2.2.2.2.2.1, (t_rows bit vs1 (y + 1) q rw (0, X.2.2.2.2.2.1, X.2.2.2.2.2.2.1, X.2.2.2.2.2.2.2.2.2)).2.2.2)
  else t_b2 fp fl L y b (X.1, X.2.1, va_up X.2.2.1 b (t_rows bit vs2 31 q rw (0, X.2.2.2.2.2.2.2.1, X.2.2.2.2.2.2.2.2.1, (t_rows bit vs1 (y + 1) q rw (0, X.2.2.2.2.2.1, X.2.2.2.2.2.2.1, X.2.2.2.2.2.2.2.2.2)).2.2.2)).1, X.2.2.2.1, va_up X.2.2.2.2.1 b true, (t_rows bit vs1 (y + 1) q rw (0, X.2.2.2.2.2.1, X.2.2.2.2.2.2.1, X.2.2.2.2.2.2.2.2.2)).2.1, (t_rows bit vs1 (y + 1) q rw (0, X.2.2.2.2.2.1, X.2.2.2.2.2.2.1, X.2.2.2.2.2.2.2.2.2)).2.2.1,
    (t_rows bit vs2 31 q rw (0, X.2.2.2.2.2.2.2.1, X.2.2.2.2.2.2.2.2.1, (t_rows bit vs1 (y + 1) q rw (0, X.2.2.2.2.2.1, X.2.2.2.2.2.2.1, X.2.2.2.2.2.2.2.2.2)).2.2.2)).2.1, (t_rows bit vs2 31 q rw (0, X.2.2.2.2.2.2.2.1, X.2.2.2.2.2.2.2.2.1, (t_rows bit vs1 (y + 1) q rw (0, X.2.2.2.2.2.1, X.2.2.2.2.2.2.1, X.2.2.2.2.2.2.2.2.2)).2.2.2)).2.2.1,
    t_z (t_rows bit vs2 31 q rw (0, X.2.2.2.2.2.2.2.1, X.2.2.2.2.2.2.2.2.1, (t_rows bit vs1 (y + 1) q rw (0, X.2.2.2.2.2.1, X.2.2.2.2.2.2.1, X.2.2.2.2.2.2.2.2.2)).2.2.2)) le)
end TB
theorem m_300 {r y : Nat} (h : r ≤ 3) (hy : y + 1 + 1 ≤ 10) : r * (y + 1 + 1) ≤ 300 := Nat.le_trans (Nat.mul_le_mul h hy) (by omega)
theorem m_270 {r y : Nat} (h : r ≤ 3) (hy : y + 1 + 1 ≤ 10) : 270 + r * (y + 1 + 1) ≤ 300 := by have := Nat.mul_le_mul h hy; omega
theorem okW_lp {ms : Bool} {v nd en k : Nat} : ∀ {i lw : Nat} {dn : Nat → Bool} {s : wS}, okW (k + i) s → okW k (t_lp (bitW ms) v nd en i lw dn s).2.2
  | 0, _, _, _, h => h
  | i + 1, lw, dn, s, h => by
    rw [t_lp]
    split
    · split
      · exact okW_le (okW_bit (k := k + i) h _) (by omega)
      · exact okW_lp (okW_bit (k := k + i) h _)
    · exact okW_le h (by omega)
theorem okW_rows {ms : Bool} {vs q : Nat → Nat} {en k : Nat} : ∀ {i : Nat} {x : tX wS}, okW (k + i * (en + 1)) x.2.2.2 → okW k (t_rows (bitW ms) vs en q i x).2.2.2
  | 0, _, h => okW_le h (by omega)
  | i + 1, x, h => by
    rw [t_rows]
    refine okW_rows (i := i) (okW_lp (okW_le h ?_))
    rw [Nat.succ_mul]
    omega
theorem okR_lp {f : Nat → Nat} {n v nd en : Nat} (hf : ∀ j, f j < 256) : ∀ {i lw : Nat} {dn : Nat → Bool} {s : rS}, okR n s → okR n (t_lp (bitR f n) v nd en i lw dn s).2.2
  | 0, _, _, _, h => h
  | i + 1, lw, dn, s, h => by
    rw [t_lp]
    split
    · split
      · exact okR_bit hf h _
      · exact okR_lp hf (okR_bit hf h _)
    · exact h
theorem okR_rows {f : Nat → Nat} {n en : Nat} {vs q : Nat → Nat} (hf : ∀ j, f j < 256) : ∀ {i : Nat} {x : tX rS}, okR n x.2.2.2 → okR n (t_rows (bitR f n) vs en q i x).2.2.2
  | 0, _, h => h
  | i + 1, x, h => by
    rw [t_rows]
    exact okR_rows hf (i := i) (okR_lp hf h)
theorem m_fail4 {a j : Nat} (h : a < 4) (hj : j < 4) : m_fail a j < 4 := by unfold m_fail; split; exact hj; exact h
theorem okW_fl {k j : Nat} {s : wS} (h : okW k s) (hj : j < 4) : okW k (t_fl s j) := ⟨h.1, h.2.1, h.2.2.1, h.2.2.2.1, m_fail4 h.2.2.2.2 hj⟩
theorem okR_fl {n j : Nat} {s : rS} (h : okR n s) (hj : j < 4) : okR n (t_fl s j) := ⟨h.1, h.2.1, h.2.2.1, by show m_fail s.1 j < 4; unfold m_fail; split; exact hj; exact h.2.2.2⟩
theorem okW_pass {ms : Bool} {k : Nat} {d1 d2 : Bool} {f2 f5 f7 : Nat → Bool} {s : wS} (h : okW (k + 16) s) : okW k (t_pass (bitW ms) d1 d2 f2 f5 f7 s).2 := by
  unfold t_pass
  have h1 := okW_bit (ms := ms) (k := k + 15) h d1
  have h2 := okW_bit (ms := ms) (k := k + 14) h1 d2
  split
  · dsimp only; exact okW_le h1 (by omega)
  · split
    · dsimp only; exact okW_le h2 (by omega)
    · unfold t_p2
      have h3 := okW_num (ms := ms) (k := k + 12) (i := 2) h2 f2 0
      split
      · dsimp only; exact okW_le h3 (by omega)
      · unfold t_p5
        have h4 := okW_num (ms := ms) (k := k + 7) (i := 5) h3 f5 0
        split
        · dsimp only; exact okW_le h4 (by omega)
        · dsimp only; exact okW_num (ms := ms) (k := k) (i := 7) h4 f7 0
theorem okR_pass {f : Nat → Nat} {n : Nat} (hf : ∀ j, f j < 256) {d1 d2 : Bool} {f2 f5 f7 : Nat → Bool} {s : rS} (h : okR n s) : okR n (t_pass (bitR f n) d1 d2 f2 f5 f7 s).2 := by
  unfold t_pass
  have h1 := okR_bit hf h d1
  have h2 := okR_bit hf h1 d2
  split
  · dsimp only; exact h1
  · split
    · dsimp only; exact h2
    · unfold t_p2
      have h3 := okR_num hf h2 f2 2 0
      split
      · dsimp only; exact h3
      · unfold t_p5
        have h4 := okR_num hf h3 f5 5 0
        split
        · dsimp only; exact h4
        · dsimp only; exact okR_num hf h4 f7 7 0
theorem t_pass_le {β : Type} (bit : β → Bool → Bool × β) {d1 d2 : Bool} {f2 f5 f7 : Nat → Bool} {s : β} : (t_pass bit d1 d2 f2 f5 f7 s).1 ≤ 164 := by
  unfold t_pass
  split
  · show 1 ≤ 164; omega
  · split
    · show 2 ≤ 164; omega
    · unfold t_p2
      split
      · show 3 + _ ≤ 164; omega
      · unfold t_p5
        split
        · show 6 + _ ≤ 164; omega
        · have := t_num_lt bit f7 7 0 (t_num bit f5 5 0 (t_num bit f2 2 0 (bit (bit s d1).2 d2).2).2).2
          show 37 + _ ≤ 164; omega
theorem t_lp_low {β : Type} (bit : β → Bool → Bool × β) {v nd en B : Nat} (he : en < B) : ∀ {i lw : Nat} {dn : Nat → Bool} {s : β}, lw < B → (t_lp bit v nd en i lw dn s).1 < B
  | 0, _, _, _, h => h
  | i + 1, lw, dn, s, h => by
    rw [t_lp]
    split
    · split
      · exact h
      · rename_i h1 _
        exact t_lp_low bit he (by have := h1.1; omega)
    · exact h
theorem t_rows_lo {β : Type} (bit : β → Bool → Bool × β) {vs q : Nat → Nat} {en B : Nat} (he : en < B) : ∀ {i : Nat} {x : tX β}, x.1 < B → (∀ j, x.2.1 j < B) → ∀ j, (t_rows bit vs en q i x).2.1 j < B
  | 0, _, _, h => h
  | i + 1, x, h1, h => by
    rw [t_rows]
    have hm : max x.1 (x.2.1 (q i)) < B := by have := h (q i); omega
    exact t_rows_lo bit he (i := i) (t_lp_low bit he hm) (m_up_lt h (t_lp_low bit he hm))
theorem okW_wid {ms : Bool} {due : Nat → Bool} {k : Nat} : ∀ {n w : Nat} {s : wS}, okW (k + n) s → okW k (t_wid (bitW ms) due n w s).2
  | 0, _, _, h => h
  | n + 1, w, s, h => by
    rw [t_wid]
    split
    · split
      · exact okW_wid (okW_bit (k := k + n) h _)
      · exact okW_le (okW_bit (k := k + n) h _) (by omega)
    · exact okW_le h (by omega)
theorem okR_wid {f : Nat → Nat} {N : Nat} {due : Nat → Bool} (hf : ∀ j, f j < 256) : ∀ {n w : Nat} {s : rS}, okR N s → okR N (t_wid (bitR f N) due n w s).2
  | 0, _, _, h => h
  | n + 1, w, s, h => by
    rw [t_wid]
    split
    · split
      · exact okR_wid hf (okR_bit hf h _)
      · exact okR_bit hf h _
    · exact h
theorem t_widW {ms : Bool} {d : Nat} (hd : d < 2 ^ 16) : ∀ {n w : Nat} {s : wS}, (t_wid (bitW ms) (fun w => decide (0 < d / 2 ^ w)) n w s).1 = w ∨ (t_wid (bitW ms) (fun w => decide (0 < d / 2 ^ w)) n w s).1 ≤ 16
  | 0, _, _ => Or.inl rfl
  | n + 1, w, s => by
    rw [t_wid]
    split
    · split
      · rename_i h1 h2
        have h3 : w < 16 := lt16 (of_decide_eq_true h2) hd
        rcases t_widW hd (n := n) (w := w + 1) (s := (bitW ms s (decide (0 < d / 2 ^ w))).2) with h | h
        · right; rw [h]; omega
        · right; exact h
      · exact Or.inl rfl
    · exact Or.inl rfl
theorem okW_len {ms : Bool} {due dn : Nat → Bool} {x b k : Nat} {gr : Nat → Nat} {s : wS} (h : okW (k + 49) s) : okW k (t_len (bitW ms) due dn x gr b s).2.2 := by
  unfold t_len
  have h1 : okW (k + 24) (t_wid (bitW ms) due (25 - (gr b + m_pow x)) (gr b + m_pow x) s).2 := okW_wid (okW_le h (by omega))
  split
  · rename_i hw
    dsimp only
    exact okW_num (okW_le h1 (by omega)) _ _
  · exact okW_fl (okW_le h1 (by omega)) (by omega)
theorem okR_len {f : Nat → Nat} {n : Nat} (hf : ∀ j, f j < 256) {due dn : Nat → Bool} {x b : Nat} {gr : Nat → Nat} {s : rS} (h : okR n s) : okR n (t_len (bitR f n) due dn x gr b s).2.2 := by
  unfold t_len
  have h1 := okR_wid (due := due) hf (n := 25 - (gr b + m_pow x)) (w := gr b + m_pow x) h
  split
  · dsimp only
    exact okR_num hf h1 _ _ _
  · exact okR_fl h1 (by omega)
/-- what holds all along a walk over the heads -/
def gdW (k : Nat) (X : hS wT) : Prop := (∀ j, X.2.2.2.2.2.1 j < 2 ^ 30) ∧ (∀ j, X.2.2.2.2.2.2.2.1 j < 2 ^ 30) ∧ (∀ j, X.1 j ≤ 164) ∧ (∀ j, X.2.1 j < 2 ^ 16) ∧ (∀ j, X.2.2.2.1 j ≤ 16) ∧ okW k X.2.2.2.2.2.2.2.2.2
def gdR (n : Nat) (X : hS rT) : Prop := (∀ j, X.2.2.2.2.2.1 j < 2 ^ 30) ∧ (∀ j, X.2.2.2.2.2.2.2.1 j < 2 ^ 30) ∧ (∀ j, X.1 j ≤ 164) ∧ (∀ j, X.2.1 j < 2 ^ 30) ∧ (∀ j, X.2.2.2.1 j ≤ 24) ∧ okR n X.2.2.2.2.2.2.2.2.2
theorem m_up_le {f : Nat → Nat} {k v B : Nat} (h : ∀ j, f j ≤ B) (hv : v ≤ B) : ∀ j, va_up f k v j ≤ B := by
  intro j
  unfold va_up
  split
  · exact hv
  · exact h j
theorem gdW_le {j k : Nat} {X : hS wT} (h : gdW k X) (hj : j ≤ k) : gdW j X := ⟨h.1, h.2.1, h.2.2.1, h.2.2.2.1, h.2.2.2.2.1, okW_le h.2.2.2.2.2 hj⟩
abbrev fpW (ms : Bool) : Nat → wS → Nat × wS := fun n s => t_pass (bitW ms) (decide (1 < n)) (decide (2 < n)) (m_due (min (n - 3) 3)) (m_due (min (n - 6) 31)) (m_due (n - 37)) s
abbrev flW (ms : Bool) : Nat → Nat → (Nat → Nat) → Nat → wS → Nat × (Nat → Nat) × wS := fun x d gr b s => t_len (bitW ms) (fun w => decide (0 < d / 2 ^ w)) (m_due d) x gr b s
abbrev fpR (f : Nat → Nat) (bz : Nat) : Nat → rS → Nat × rS := fun _ s => t_pass (bitR f bz) false false (fun _ => false) (fun _ => false) (fun _ => false) s
abbrev flR (f : Nat → Nat) (bz : Nat) : Nat → Nat → (Nat → Nat) → Nat → rS → Nat × (Nat → Nat) × rS := fun x _ gr b s => t_len (bitR f bz) (fun _ => false) (fun _ => false) x gr b s
theorem gdW_b2 {ms : Bool} {L y b k : Nat} {X : hS wT} (h : gdW (k + 65) X) : gdW k (t_b2 (fpW ms) (flW ms) L y b X) := by
  obtain ⟨h1, h2, h3, h4, h5, h6⟩ := h
  obtain ⟨s3, e3⟩ : ∃ z, z = fpW ms (X.1 (b * L + y)) X.2.2.2.2.2.2.2.2.2 := ⟨_, rfl⟩
  obtain ⟨s4, e4⟩ : ∃ z, z = flW ms s3.1 (X.2.1 (b * L + y)) X.2.2.2.1 b s3.2 := ⟨_, rfl⟩
  rw [t_b2_eq (fp := fpW ms) (fl := flW ms) (X := X) e3 e4]
  have hc : s3.1 ≤ 164 := by rw [e3]; exact t_pass_le _
  have ho : okW (k + 49) s3.2 := by rw [e3]; exact okW_pass (okW_le h6 (by omega))
  have hd := h4 (b * L + y)
  have ho2 : okW k s4.2.2 := by rw [e4]; exact okW_len ho
  have hw := t_widW (ms := ms) hd (n := 25 - (X.2.2.2.1 b + m_pow s3.1)) (w := X.2.2.2.1 b + m_pow s3.1) (s := s3.2)
  have hg := h5 b
  refine ⟨h1, h2, m_up_le h3 hc, m_up_lt h4 ?_, ?_, ho2⟩
  · rw [e4]
    show (t_len _ _ _ _ _ _ _).1 < _
    unfold t_len
    split
    · show (t_num _ _ _ _ _).1 < _
      rw [t_numW_val]
      have := Nat.mod_le (X.2.1 (b * L + y)) (2 ^ (t_wid (bitW ms) (fun w => decide (0 < X.2.1 (b * L + y) / 2 ^ w)) (25 - (X.2.2.2.1 b + m_pow s3.1)) (X.2.2.2.1 b + m_pow s3.1) s3.2).1)
      omega
    · show 0 < _; omega
  · show ∀ j, s4.2.1 j ≤ 16
    rw [e4]
    show ∀ j, (t_len _ _ _ _ _ _ _).2.1 j ≤ 16
    unfold t_len
    split
    · exact m_up_le h5 (by rcases hw with q | q <;> omega)
    · exact h5
theorem gdR_b2 {f : Nat → Nat} {n : Nat} (hf : ∀ j, f j < 256) {L y b : Nat} {X : hS rT} (h : gdR n X) : gdR n (t_b2 (fpR f n) (flR f n) L y b X) := by
  obtain ⟨h1, h2, h3, h4, h5, h6⟩ := h
  obtain ⟨s3, e3⟩ : ∃ z, z = fpR f n (X.1 (b * L + y)) X.2.2.2.2.2.2.2.2.2 := ⟨_, rfl⟩
  obtain ⟨s4, e4⟩ : ∃ z, z = flR f n s3.1 (X.2.1 (b * L + y)) X.2.2.2.1 b s3.2 := ⟨_, rfl⟩
  rw [t_b2_eq (fp := fpR f n) (fl := flR f n) (X := X) e3 e4]
  have hc : s3.1 ≤ 164 := by rw [e3]; exact t_pass_le _
  have ho : okR n s3.2 := by rw [e3]; exact okR_pass hf h6
  have ho2 : okR n s4.2.2 := by rw [e4]; exact okR_len hf ho
  refine ⟨h1, h2, m_up_le h3 hc, m_up_lt h4 ?_, ?_, ho2⟩
  · rw [e4]
    show (t_len _ _ _ _ _ _ _).1 < _
    unfold t_len
    split
    · rename_i hw
      show (t_num _ _ _ _ _).1 < _
      refine Nat.lt_of_lt_of_le (t_num_lt _ _ _ _ _) ?_
      rw [Nat.zero_add, Nat.one_mul]
      exact Nat.le_trans (Nat.pow_le_pow_right (by omega) hw) (by omega)
    · show 0 < _; omega
  · show ∀ j, s4.2.1 j ≤ 24
    rw [e4]
    show ∀ j, (t_len _ _ _ _ _ _ _).2.1 j ≤ 24
    unfold t_len
    split
    · exact m_up_le h5 (by omega)
    · exact h5
theorem gdW_blk {ms : Bool} {vs1 vs2 q : Nat → Nat} {r L y b le k : Nat} {X : hS wT} (hr : r ≤ 3) (hy : y < 8) (h : gdW (k + 300) X) : gdW k (t_blk (bitW ms) (fpW ms) (flW ms) vs1 vs2 q r L y b le X) := by
  obtain ⟨h1, h2, h3, h4, h5, h6⟩ := h
  unfold t_blk
  have hb := okW_bit (ms := ms) (k := k + 299) h6 (decide (0 < X.1 (b * L + y)))
  split
  · split
    · exact ⟨h1, h2, h3, h4, h5, okW_le hb (by omega)⟩
    · exact gdW_b2 (k := k) ⟨h1, h2, h3, h4, h5, okW_le hb (by omega)⟩
  · have hr1 : okW (k + 270) (t_rows (bitW ms) vs1 (y + 1) q r (0, X.2.2.2.2.2.1, X.2.2.2.2.2.2.1, X.2.2.2.2.2.2.2.2.2)).2.2.2 := okW_rows (okW_le h6 (by have := Nat.mul_le_mul hr (show y + 1 + 1 ≤ 10 by omega); omega))
    have hl1 := t_rows_lo (bitW ms) (vs := vs1) (q := q) (en := y + 1) (B := 2 ^ 30) (by omega) (i := r) (x := (0, X.2.2.2.2.2.1, X.2.2.2.2.2.2.1, X.2.2.2.2.2.2.2.2.2)) (by show 0 < _; omega) h1
    split
    · exact ⟨hl1, h2, h3, h4, h5, okW_le hr1 (by omega)⟩
    · refine gdW_b2 (k := k) ⟨hl1, t_rows_lo (bitW ms) (by omega) (by show 0 < _; omega) h2, h3, h4, h5, ?_⟩
      have hr2 : okW (k + 170) (t_rows (bitW ms) vs2 31 q r (0, X.2.2.2.2.2.2.2.1, X.2.2.2.2.2.2.2.2.1, (t_rows (bitW ms) vs1 (y + 1) q r (0, X.2.2.2.2.2.1, X.2.2.2.2.2.2.1, X.2.2.2.2.2.2.2.2.2)).2.2.2)).2.2.2 := okW_rows (okW_le hr1 (by omega))
      show okW (k + 65) (t_z _ _)
      unfold t_z
      split
      · exact okW_le hr2 (by omega)
      · exact okW_fl (okW_le hr2 (by omega)) (by omega)
theorem gdR_blk {f : Nat → Nat} {n : Nat} (hf : ∀ j, f j < 256) {vs1 vs2 q : Nat → Nat} {r L y b le : Nat} {X : hS rT} (hy : y < 8) (h : gdR n X) : gdR n (t_blk (bitR f n) (fpR f n) (flR f n) vs1 vs2 q r L y b le X) := by
  obtain ⟨h1, h2, h3, h4, h5, h6⟩ := h
  unfold t_blk
  have hb := okR_bit hf h6 (decide (0 < X.1 (b * L + y)))
  split
  · split
    · exact ⟨h1, h2, h3, h4, h5, hb⟩
    · exact gdR_b2 hf ⟨h1, h2, h3, h4, h5, hb⟩
  · have hr1 : okR n (t_rows (bitR f n) vs1 (y + 1) q r (0, X.2.2.2.2.2.1, X.2.2.2.2.2.2.1, X.2.2.2.2.2.2.2.2.2)).2.2.2 := okR_rows hf h6
    have hl1 := t_rows_lo (bitR f n) (vs := vs1) (q := q) (en := y + 1) (B := 2 ^ 30) (by omega) (i := r) (x := (0, X.2.2.2.2.2.1, X.2.2.2.2.2.2.1, X.2.2.2.2.2.2.2.2.2)) (by show 0 < _; omega) h1
    split
    · exact ⟨hl1, h2, h3, h4, h5, hr1⟩
    · refine gdR_b2 hf ⟨hl1, t_rows_lo (bitR f n) (by omega) (by show 0 < _; omega) h2, h3, h4, h5, ?_⟩
      have hr2 : okR n (t_rows (bitR f n) vs2 31 q r (0, X.2.2.2.2.2.2.2.1, X.2.2.2.2.2.2.2.2.1, (t_rows (bitR f n) vs1 (y + 1) q r (0, X.2.2.2.2.2.1, X.2.2.2.2.2.2.1, X.2.2.2.2.2.2.2.2.2)).2.2.2)).2.2.2 := okR_rows hf hr1
      show okR n (t_z _ _)
      unfold t_z
      split
      · exact hr2
      · exact okR_fl hr2 (by omega)

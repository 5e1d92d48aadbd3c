/-! the packets' order -/
abbrev lS : Type := (Nat → Nat) × Nat × (Nat → Nat) × (Nat → Bool)
def lp_put (fp : Nat → Nat) (k : Nat) (fa : Nat → Nat) : Nat → Nat → Nat
  | 0 => fp
  | n + 1 => va_up (lp_put fp k fa n) (k * 4 + n) (fa n)
def lp_slot (Rz : Nat) (fa : Nat → Nat) : Nat := fa 2 * Rz + fa 1
def lp_mark (L Rz : Nat) (fa : Nat → Nat) : Nat := ((fa 2 * Rz + fa 1) * L + fa 0) * 4 + fa 3
def lp_one (pr : Nat → Nat) (L Rz : Nat) (X : lS) : lS :=
  if pr (lp_slot Rz X.1) ≤ X.1 3 ∨ X.2.2.2 (lp_mark L Rz X.1) = true then X else (X.1, X.2.1 + 1, lp_put X.2.2.1 X.2.1 X.1 4, va_up X.2.2.2 (lp_mark L Rz X.1) true)
def lp_inc (ax : Nat) (X : lS) : lS := (va_up X.1 ax (X.1 ax + 1), X.2)
def lp_set (ax : Nat) (X : lS) : lS := (va_up X.1 ax 0, X.2)
def lp_it (body : lS → lS) (ax : Nat) : Nat → lS → lS
  | 0, X => X
  | n + 1, X => lp_it body ax n (lp_inc ax (body X))
def lp_for (fn : Nat → Nat) (body : lS → lS) (ax : Nat) (X : lS) : lS := lp_it body ax (fn ax) (lp_set ax X)
def lpC (fn pr : Nat → Nat) (L Rz d : Nat) (X : lS) : lS := lp_for fn (lp_one pr L Rz) d X
def lpB (fn pr : Nat → Nat) (L Rz c d : Nat) (X : lS) : lS := lp_for fn (lpC fn pr L Rz d) c X
def lpA (fn pr : Nat → Nat) (L Rz b c d : Nat) (X : lS) : lS := lp_for fn (lpB fn pr L Rz c d) b X
def lp_go (fn pr : Nat → Nat) (L Rz a b c d : Nat) (X : lS) : lS := lp_for fn (lpA fn pr L Rz b c d) a X
def KA (fn pr : Nat → Nat) (L Rz a b c d na : Nat) (X : lS) : lS := lp_it (lpA fn pr L Rz b c d) a na X
def KB (fn pr : Nat → Nat) (L Rz a b c d nb na : Nat) (X : lS) : lS := KA fn pr L Rz a b c d na (lp_inc a (lp_it (lpB fn pr L Rz c d) b nb X))
def KC (fn pr : Nat → Nat) (L Rz a b c d nc nb na : Nat) (X : lS) : lS := KB fn pr L Rz a b c d nb na (lp_inc b (lp_it (lpC fn pr L Rz d) c nc X))
def KD (fn pr : Nat → Nat) (L Rz a b c d nd nc nb na : Nat) (X : lS) : lS := KC fn pr L Rz a b c d nc nb na (lp_inc c (lp_it (lp_one pr L Rz) d nd X))
def m_cnt (f : Nat → Bool) : Nat → Nat
  | 0 => 0
  | n + 1 => m_cnt f n + b2n (f n)
theorem b2n_le9 (b : Bool) : b2n b ≤ 1 := by cases b <;> decide
theorem m_cnt_le (f : Nat → Bool) : ∀ n, m_cnt f n ≤ n
  | 0 => Nat.le_refl _
  | n + 1 => by have h1 := m_cnt_le f n; have h2 := b2n_le9 (f n); rw [m_cnt]; omega
theorem m_cnt_lt {f : Nat → Bool} {k : Nat} (hf : f k = false) : ∀ n, k < n → m_cnt f n < n
  | 0, h => absurd h (Nat.not_lt_zero _)
  | n + 1, h => by
    rw [m_cnt]
    by_cases e : k = n
    · subst e; rw [hf]; have := m_cnt_le f k; simp only [b2n]; simp; omega
    · have := m_cnt_lt hf n (by omega); have h2 := b2n_le9 (f n); omega
theorem m_cnt_eq {f g : Nat → Bool} : ∀ n, (∀ j, j < n → f j = g j) → m_cnt f n = m_cnt g n
  | 0, _ => rfl
  | n + 1, h => by rw [m_cnt, m_cnt, m_cnt_eq n (fun j hj => h j (by omega)), h n (by omega)]
theorem m_cnt_up {f : Nat → Bool} {k : Nat} (hf : f k = false) : ∀ n, k < n → m_cnt (va_up f k true) n = m_cnt f n + 1
  | 0, h => absurd h (Nat.not_lt_zero _)
  | n + 1, h => by
    rw [m_cnt, m_cnt]
    by_cases e : k = n
    · subst e
      rw [m_cnt_eq (g := f) k (fun j hj => va_up_ne f true (by omega)), va_up_self, hf]
      simp [b2n]
    · rw [m_cnt_up hf n (by omega), va_up_ne f true (by omega)]
      omega
theorem m_cnt_z {f : Nat → Bool} (n : Nat) : m_cnt (m_fill false n f) n = 0 := by
  have h : ∀ k, k ≤ n → m_cnt (m_fill false n f) k = 0 := by
    intro k
    induction k with
    | zero => intro _; rfl
    | succ k ih => intro hk; rw [m_cnt, ih (by omega)]; simp [m_fill, show k < n by omega, b2n]
  exact h n (Nat.le_refl _)
/-- the list is sound: as many packets as marks, each with places that are there -/
def oL (pr : Nat → Nat) (L Rz C np : Nat) (X : lS) : Prop := X.2.1 = m_cnt X.2.2.2 np ∧ ∀ k, k < X.2.1 → X.2.2.1 (k * 4) < L ∧ X.2.2.1 (k * 4 + 1) < Rz ∧ X.2.2.1 (k * 4 + 2) < C ∧ X.2.2.1 (k * 4 + 3) < pr (X.2.2.1 (k * 4 + 2) * Rz + X.2.2.1 (k * 4 + 1))
theorem oL_le {pr : Nat → Nat} {L Rz C np : Nat} {X : lS} (h : oL pr L Rz C np X) : X.2.1 ≤ np := by rw [h.1]; exact m_cnt_le _ _
theorem lp_put_lt {fp fa : Nat → Nat} {k j : Nat} (h : j < k * 4) : ∀ n, lp_put fp k fa n j = fp j
  | 0 => rfl
  | n + 1 => by rw [lp_put, va_up_ne _ _ (by omega), lp_put_lt h n]
theorem lp_put_at {fp fa : Nat → Nat} {k j : Nat} : ∀ n, j < n → lp_put fp k fa n (k * 4 + j) = fa j
  | 0, h => absurd h (Nat.not_lt_zero _)
  | n + 1, h => by
    rw [lp_put]
    by_cases e : j = n
    · subst e; rw [va_up_self]
    · rw [va_up_ne _ _ (by omega), lp_put_at n (by omega)]
theorem m_mark {L Rz np : Nat} {fa : Nat → Nat} (h0 : fa 0 < L) (h1 : fa 1 < Rz) (h2 : fa 2 < 3) (h3 : fa 3 < 4) (hnp : np = L * Rz * 3 * 4) : lp_mark L Rz fa < np := by
  have e1 : fa 2 * Rz + fa 1 < 3 * Rz := m_in h2 h1
  have e2 : (fa 2 * Rz + fa 1) * L + fa 0 < 3 * Rz * L := m_in e1 h0
  have e3 : 3 * Rz * L = L * Rz * 3 := by rw [Nat.mul_comm 3 Rz, Nat.mul_right_comm, Nat.mul_comm Rz L]
  unfold lp_mark
  omega
theorem lp_one_ok {pr : Nat → Nat} {L Rz C np : Nat} {X : lS} (h : oL pr L Rz C np X) (hm : lp_mark L Rz X.1 < np) (h0 : X.1 0 < L) (h1 : X.1 1 < Rz) (h2 : X.1 2 < C) : oL pr L Rz C np (lp_one pr L Rz X) := by
  unfold lp_one
  by_cases e : pr (lp_slot Rz X.1) ≤ X.1 3 ∨ X.2.2.2 (lp_mark L Rz X.1) = true
  · rw [if_pos e]; exact h
  · rw [if_neg e]
    have hf : X.2.2.2 (lp_mark L Rz X.1) = false := by
      cases hq : X.2.2.2 (lp_mark L Rz X.1) with
      | false => rfl
      | true => exact absurd (Or.inr hq) e
    have hp : X.1 3 < pr (lp_slot Rz X.1) := Nat.not_le.mp (fun q => e (Or.inl q))
    refine ⟨?_, fun k hk => ?_⟩
    · show X.2.1 + 1 = _
      rw [m_cnt_up hf np hm, ← h.1]
    · have hk : k < X.2.1 + 1 := hk
      show lp_put X.2.2.1 X.2.1 X.1 4 (k * 4) < L ∧ lp_put X.2.2.1 X.2.1 X.1 4 (k * 4 + 1) < Rz ∧ lp_put X.2.2.1 X.2.1 X.1 4 (k * 4 + 2) < C ∧ lp_put X.2.2.1 X.2.1 X.1 4 (k * 4 + 3) < pr (lp_put X.2.2.1 X.2.1 X.1 4 (k * 4 + 2) * Rz + lp_put X.2.2.1 X.2.1 X.1 4 (k * 4 + 1))
      by_cases e2 : k = X.2.1
      · subst e2
        have g0 : lp_put X.2.2.1 X.2.1 X.1 4 (X.2.1 * 4) = X.1 0 := lp_put_at (j := 0) 4 (by omega)
        rw [g0, lp_put_at 4 (by omega), lp_put_at 4 (by omega), lp_put_at 4 (by omega)]
        exact ⟨h0, h1, h2, hp⟩
      · rw [lp_put_lt (by omega), lp_put_lt (by omega), lp_put_lt (by omega), lp_put_lt (by omega)]
        exact h.2 k (by omega)
def m_ends (fn : Nat → Nat) (y z k L Rz C : Nat) : Nat → Nat := va_up (va_up (va_up (va_up fn 0 (min y L)) 1 (min z Rz)) 2 (min k C)) 3 4
theorem m_ends_le (fn : Nat → Nat) (y z k L Rz C : Nat) : m_ends fn y z k L Rz C 0 ≤ L ∧ m_ends fn y z k L Rz C 1 ≤ Rz ∧ m_ends fn y z k L Rz C 2 ≤ C ∧ m_ends fn y z k L Rz C 3 ≤ 4 := by
  simp only [m_ends, va_up]
  refine ⟨?_, ?_, ?_, ?_⟩ <;> simp <;> omega
def lp_run (pr : Nat → Nat) (L Rz C : Nat) (S : (Nat → Nat) × lS) (od y z k : Nat) : (Nat → Nat) × lS := (m_ends S.1 y z k L Rz C, lp_go (m_ends S.1 y z k L Rz C) pr L Rz (m_ord od) (m_ord (od + 1)) (m_ord (od + 2)) (m_ord (od + 3)) S.2)
def lp_prt (fo fe pr : Nat → Nat) (L Rz C : Nat) (S : (Nat → Nat) × lS) : Nat → (Nat → Nat) × lS
  | 0 => S
  | i + 1 => lp_run pr L Rz C (lp_prt fo fe pr L Rz C S i) (fo i * 4) (fe (i * 3 + 0)) (fe (i * 3 + 1)) (fe (i * 3 + 2))
def lp_start (np : Nat) (X : lS) : lS := (X.1, 0, X.2.2.1, m_fill false np X.2.2.2)
theorem lp_start_ok {pr : Nat → Nat} {L Rz C np : Nat} {X : lS} : oL pr L Rz C np (lp_start np X) := ⟨(m_cnt_z np).symm, fun k hk => absurd hk (Nat.not_lt_zero _)⟩
def lp_first (pr : Nat → Nat) (L Rz C pts : Nat) (S : (Nat → Nat) × lS) : (Nat → Nat) × lS := if pts = 0 then lp_run pr L Rz C S 0 8 4 3 else S
def lp_list (fo fe pr : Nat → Nat) (L Rz C pts np : Nat) (fn : Nat → Nat) (X : lS) : (Nat → Nat) × lS := lp_prt fo fe pr L Rz C (lp_first pr L Rz C pts (fn, lp_start np X)) pts
theorem m_perm : ∀ q, q < 5 → (m_ord (q * 4) < 4 ∧ m_ord (q * 4 + 1) < 4 ∧ m_ord (q * 4 + 2) < 4 ∧ m_ord (q * 4 + 3) < 4) ∧ (m_ord (q * 4) ≠ m_ord (q * 4 + 1) ∧ m_ord (q * 4) ≠ m_ord (q * 4 + 2) ∧ m_ord (q * 4) ≠ m_ord (q * 4 + 3) ∧ m_ord (q * 4 + 1) ≠ m_ord (q * 4 + 2) ∧ m_ord (q * 4 + 1) ≠ m_ord (q * 4 + 3) ∧ m_ord (q * 4 + 2) ≠ m_ord (q * 4 + 3)) ∧ ∀ j, j < 4 → j = m_ord (q * 4) ∨ j = m_ord (q * 4 + 1) ∨ j = m_ord (q * 4 + 2) ∨ j = m_ord (q * 4 + 3) := by decide +kernel
/-! a new component -/
def m_put {α : Type} (v : Nat → α) (k n : Nat) (f : Nat → α) : Nat → α := fun j => if k ≤ j ∧ j < k + n then v (j - k) else f j
theorem m_put_0 {α : Type} {v : Nat → α} {k : Nat} {f : Nat → α} : m_put v k 0 f = f := by
  funext j
  unfold m_put
  rw [if_neg (by omega)]
theorem m_put_s {α : Type} {v : Nat → α} {k n : Nat} {f : Nat → α} : va_up (m_put v k n f) (k + n) (v n) = m_put v k (n + 1) f := by
  funext j
  unfold va_up m_put
  by_cases e : j = k + n
  · subst e; rw [if_pos rfl, if_pos (by omega), Nat.add_sub_cancel_left]
  · rw [if_neg e]
    by_cases h : k ≤ j ∧ j < k + n
    · rw [if_pos h, if_pos (by omega)]
    · rw [if_neg h, if_neg (by omega)]
def m_room (f : Nat → Nat) (t y z k : Nat) : Nat → Nat := m_put (fun _ => 0) t ((t + z) - t) (va_cpy f f (t + y) (t + z) k)
def m_b13 (r : Nat) : Nat := if r = 0 then 1 else 3
def m_one (_ : Nat) : Nat := 1
def m_so : Nat → Option Nat := fun _ => some 0
theorem m_most_le {Rz : Nat} (h1 : 1 ≤ Rz) (h2 : Rz ≤ 4) : m_most Rz ≤ 424 ∧ Rz + 2 * Rz ≤ m_most Rz := by
  rcases (show Rz = 1 ∨ Rz = 2 ∨ Rz = 3 ∨ Rz = 4 by omega) with h | h | h | h <;> subst h <;> decide
/-- a number between two bounds -/
def m_cl (v : Int32) (lo hi : Nat) : Nat := if v < nI lo then lo else if nI hi < v then hi else v.toNatClampNeg
theorem nI_toI9 {k : Nat} (h : k < 2 ^ 31) : (nI k).toInt = (k : Int) := by
  show (Int32.ofNat k).toInt = _
  exact Int32.toInt_ofNat_of_lt h
theorem nI_back {v : Int32} (h : ¬ v < 0) : nI v.toNatClampNeg = v := by
  have h0 : (0 : Int) ≤ v.toInt := by
    have := Int32.not_lt.mp h
    simpa using Int32.le_iff_toInt_le.mp this
  have h1 : v.toInt < 2 ^ 31 := by have := v.toInt_lt; simpa using this
  apply Int32.toInt_inj.mp
  rw [nI_toI9 (by show v.toInt.toNat < 2 ^ 31; omega)]
  show ((v.toInt.toNat : Nat) : Int) = v.toInt
  omega
theorem m_cl_eq {v : Int32} {lo hi : Nat} (h1 : lo ≤ hi) (h2 : hi < 2 ^ 31) : (if nI lo < (if v < nI hi then v else nI hi) then (if v < nI hi then v else nI hi) else nI lo) = nI (m_cl v lo hi) := by
  have e1 := nI_toI9 (show lo < 2 ^ 31 by omega)
  have e2 := nI_toI9 h2
  unfold m_cl
  simp only [Int32.lt_iff_toInt_lt, e1, e2]
  by_cases a1 : v.toInt < (lo : Int)
  · rw [if_pos (show v.toInt < (hi : Int) by omega), if_neg (by omega), if_pos a1]
  · rw [if_neg a1]
    by_cases a2 : v.toInt < (hi : Int)
    · rw [if_pos a2, if_neg (show ¬ (hi : Int) < v.toInt by omega), nI_back (by rw [Int32.lt_iff_toInt_lt]; show ¬ v.toInt < 0; omega)]
      by_cases a3 : (lo : Int) < v.toInt
      · rw [if_pos a3]
      · rw [if_neg a3]
        apply Int32.toInt_inj.mp
        rw [e1]; omega
    · rw [if_neg a2]
      by_cases a3 : (hi : Int) < v.toInt
      · rw [if_pos a3]
        by_cases a4 : lo = hi
        · subst a4; rw [if_neg (by rw [e1]; omega)]
        · rw [if_pos (by rw [e2]; omega)]
      · have e3 : v = nI hi := by
          apply Int32.toInt_inj.mp
          rw [e2]; omega
        rw [if_neg a3, nI_back (by rw [Int32.lt_iff_toInt_lt]; show ¬ v.toInt < 0; omega), e3]
        by_cases a4 : lo = hi
        · subst a4; rw [if_neg (by omega)]
        · rw [if_pos (by rw [e2]; omega)]
theorem m_cl_le {v : Int32} {lo hi : Nat} (h1 : lo ≤ hi) (h2 : hi < 2 ^ 31) : lo ≤ m_cl v lo hi ∧ m_cl v lo hi ≤ hi := by
  have e1 := nI_toI9 (show lo < 2 ^ 31 by omega)
  have e2 := nI_toI9 h2
  unfold m_cl
  simp only [Int32.lt_iff_toInt_lt, e1, e2]
  by_cases a1 : v.toInt < (lo : Int)
  · rw [if_pos a1]; omega
  · rw [if_neg a1]
    by_cases a3 : (hi : Int) < v.toInt
    · rw [if_pos a3]; omega
    · rw [if_neg a3]
      show lo ≤ v.toInt.toNat ∧ v.toInt.toNat ≤ hi
      omega
theorem m_put_le {v f : Nat → Nat} {b k n : Nat} (h1 : ∀ j, v j ≤ b) (h2 : ∀ j, f j ≤ b) : ∀ j, m_put v k n f j ≤ b := fun j => by
  unfold m_put
  split
  · exact h1 _
  · exact h2 _
/-- the list of a new object -/
def m_frl (Ly lv : Nat) : (Nat → Nat) × lS := lp_list m_z m_z (m_put m_one 0 (lv + 1) m_z) Ly (lv + 1) 1 0 (Ly * (lv + 1) * 3 * 4) m_z (m_z, 0, m_z, m_f)
theorem nI_nm9 {k : Nat} (h : k < 2 ^ 31) : ¬ nI k = -1 := fun q => by
  have h1 := congrArg Int32.toInt q
  rw [nI_toI9 h] at h1
  have h2 : (-1 : Int32).toInt = -1 := by decide
  omega
theorem m_slotOf_ok {C Rz a b : Nat} (ha : a < C) (hb : b < Rz) (hC : C ≤ 3) (hR : Rz ≤ 4) : m_slotOf C Rz (nI a) (nI b) = nI (a * Rz + b) := by
  unfold m_slotOf
  rw [if_pos ⟨⟨(nI_leI (by omega) (by omega)).mpr (by omega), (nI_leI (by omega) (by omega)).mpr (by omega)⟩, (nI_leI (by omega) (by omega)).mpr (by omega), (nI_leI (by omega) (by omega)).mpr (by omega)⟩, pk_mul, nI_add]
def m_us (v : Int64) (k : Nat) : Int64 := (v.toUInt64 >>> ((nI k).toInt64.toUInt64 &&& Int64.toUInt64 63)).toInt64
def m_as (v : Int64) (k : Nat) : Int64 := v >>> ((nI k).toInt64 &&& 63)
/-- the byte i of a number -/
def m_by (v : Int64) (i : Nat) : Nat := ((m_us v (8 * i)).toInt32.toBitVec &&& 255#32).toNat
theorem m_by_eq (v : Int64) (i : Nat) : (m_us v (8 * i)).toInt32 &&& nI 255 = nI (m_by v i) := by
  apply Int32.toBitVec_inj.1
  show (m_us v (8 * i)).toInt32.toBitVec &&& BitVec.ofNat 32 255 = BitVec.ofNat 32 (m_by v i)
  unfold m_by
  simp
theorem m_by_lt (v : Int64) (i : Nat) : m_by v i < 256 := by
  unfold m_by
  rw [BitVec.toNat_and]
  exact Nat.lt_of_le_of_lt Nat.and_le_right (by decide)
def m_feed (f : Nat → Nat) (bz : Nat) (v : Int64) : Nat → Nat → Nat
  | 0 => f
  | n + 1 => va_up (m_feed f bz v n) (bz + n) (m_by v n)
def m_l0 (n y : Nat) : Nat := if n = 0 then 0 else y
def m_gf (k L : Nat) : Int32 := if k < L then nI k else -1
theorem m_fst_le (ps : Nat → Nat) (b L : Nat) : ∀ k, m_fst ps b L k ≤ L
  | 0 => Nat.le_refl _
  | k + 1 => by
    rw [m_fst]
    split
    · omega
    · exact m_fst_le ps b L k
theorem m_first_le (ps : Nat → Nat) (b L : Nat) : m_first ps b L ≤ L := m_fst_le ps b L L
theorem m_has_ok {p b n x y z : Nat} (hx : x < p) (hy : y < b) (hz : z < n) (h1 : p < 2 ^ 31) (h2 : b < 2 ^ 31) (h3 : n < 2 ^ 31) : m_has p b n (nI x) (nI y) (nI z) = true := by
  unfold m_has
  rw [decide_eq_true ⟨(nI_leI (by omega) (by omega)).mpr (by omega), (nI_leI (by omega) (by omega)).mpr (by omega)⟩, decide_eq_true ⟨(nI_leI (by omega) (by omega)).mpr (by omega), (nI_leI (by omega) (by omega)).mpr (by omega)⟩, decide_eq_true ⟨(nI_leI (by omega) (by omega)).mpr (by omega), (nI_leI (by omega) (by omega)).mpr (by omega)⟩]
  rfl
theorem m_up_lt9 {f : Nat → Nat} {b k v : Nat} (h : ∀ j, f j < b) (hv : v < b) : ∀ j, va_up f k v j < b := fun j => by
  unfold va_up
  split
  · exact hv
  · exact h j
theorem m_up_le9 {f : Nat → Nat} {b k v : Nat} (h : ∀ j, f j ≤ b) (hv : v ≤ b) : ∀ j, va_up f k v j ≤ b := fun j => by
  unfold va_up
  split
  · exact hv
  · exact h j
theorem m_any_z {ps : Nat → Nat} {L y f t : Nat} (h : ∀ j, ps j = 0) : m_any ps L y f t = false := m_any_f (fun j _ _ => h _)
theorem m_fill_lt {c b n : Nat} {f : Nat → Nat} (hc : c < b) (h : ∀ j, f j < b) : ∀ j, m_fill c n f j < b := fun j => by
  unfold m_fill
  split
  · exact hc
  · exact h j
/-- the row behind a head of one bit -/
def m_hrow (ms : Bool) (f : Nat → Nat) (z : Nat) : Nat → Nat := if ms = false then va_up f z 0 else f
theorem hd0 (ms : Bool) (f : Nat → Nat) (z : Nat) (hz : z < 6000) : t_wend ms 8 (bitW ms ((0, f, z, 0, 8) : wS) false).2 = ((0, m_hrow ms f z, z + 1, 0, 8) : wS) := by
  cases ms <;> simp [t_wend, bitW, m_wb, m_wc, b2n, m_hrow, hz]

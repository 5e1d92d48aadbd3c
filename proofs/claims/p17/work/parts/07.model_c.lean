/-! the reference -/
def m_th (a b : Bool) : Nat := if a then (if b then 0 else 2) else 1
theorem m_th_lt (a b : Bool) : m_th a b < 2 ^ 31 := by cases a <;> cases b <;> decide
theorem m_th_z {a b : Bool} (h : m_th a b = 0) : nI 1 = bI (a && b) := by
  cases a <;> cases b <;> first | rfl | (exact absurd h (by decide))
theorem m_th_p {a b : Bool} (h : 0 < m_th a b) : nI 0 = bI (a && b) := by
  cases a <;> cases b <;> first | rfl | (exact absurd h (by decide))
def m_bnd (g : Nat) : Nat := if g % 4 = 0 then 1 else 3
def m_bef (jp jw jh : Nat → Nat) (C Rz : Nat) : Nat → Nat
  | 0 => 0
  | k + 1 => m_bef jp jw jh C Rz k + (if k / 4 < C ∧ k % 4 < Rz then jp k * m_bnd k * jw k * jh k else 0)
def m_chs (ch g : Nat) : Nat := if ch / 144 = g then 144 * g else ch
def m_by2 (v : Int64) (i : Nat) : Nat := ((m_as v (8 * i) &&& 255).toInt32.toBitVec).toNat
theorem m_by2_eq (v : Int64) (i : Nat) : (m_as v (8 * i) &&& 255).toInt32 = nI (m_by2 v i) := by
  apply Int32.toBitVec_inj.1
  show _ = BitVec.ofNat 32 (m_by2 v i)
  unfold m_by2
  simp
def m_feed2 (f : Nat → Nat) (bz : Nat) (v : Int64) : Nat → Nat → Nat
  | 0 => f
  | n + 1 => va_up (m_feed2 f bz v n) (bz + n) (m_by2 v n)
/-! the reference's list of packets -/
def cn_put (fp : Nat → Nat) (k : Nat) (fa : Nat → Nat) : Nat → Nat → Nat
  | 0 => fp
  | n + 1 => va_up (cn_put fp k fa n) (4 * k + n) (fa n)
def cn_key (t : Nat → Nat) : Nat := ((t 0 * 4 + t 1) * 3 + t 2) * 4 + t 3
def cn_dec (E : Nat → Nat) (q : Nat) : Nat → (Nat → Nat) × Nat → (Nat → Nat) × Nat
  | 0, S => S
  | c + 1, S => cn_dec E q c (va_up S.1 (m_ord (q * 4 + c)) (S.2 % E (m_ord (q * 4 + c))), S.2 / E (m_ord (q * 4 + c)))
def cn_fin (jp : Nat → Nat) (t : Nat → Nat) (X : lS) : lS :=
  if t 3 < jp (4 * t 2 + t 1) ∧ X.2.2.2 (cn_key t) = false then (t, X.2.1 + 1, cn_put X.2.2.1 X.2.1 t 4, va_up X.2.2.2 (cn_key t) true) else (t, X.2)
def cn_one (jp E : Nat → Nat) (q i : Nat) (X : lS) : lS := cn_fin jp (cn_dec E q 4 (X.1, i)).1 X
def cn_it (jp E : Nat → Nat) (q : Nat) : Nat → lS → lS
  | 0, X => X
  | i + 1, X => cn_one jp E q i (cn_it jp E q i X)
def cJ (X : lS) : Prop := X.2.1 = m_cnt X.2.2.2 384
theorem cn_one_ok {jp E : Nat → Nat} {q i : Nat} {X : lS} (h : cJ X) (hk : cn_key (cn_dec E q 4 (X.1, i)).1 < 384) : cJ (cn_one jp E q i X) := by
  unfold cn_one cn_fin
  split
  · rename_i e
    show X.2.1 + 1 = _
    rw [m_cnt_up e.2 384 hk, ← h]
  · exact h
theorem m_ord_lt {q c : Nat} (hq : q < 5) (hc : c < 4) : m_ord (q * 4 + c) < 4 := by
  have h := (m_perm q hq).1
  rcases (show c = 0 ∨ c = 1 ∨ c = 2 ∨ c = 3 by omega) with e | e | e | e <;> subst e
  · exact h.1
  · exact h.2.1
  · exact h.2.2.1
  · exact h.2.2.2
theorem cn_dec_lt {E : Nat → Nat} {q : Nat} (hq : q < 5) (hE : ∀ j, j < 4 → 1 ≤ E j) {t : Nat → Nat} {r : Nat} : ∀ j, j < 4 → (cn_dec E q 4 (t, r)).1 j < E j := by
  intro j hj
  obtain ⟨⟨h0, h1, h2, h3⟩, ⟨n01, n02, n03, n12, n13, n23⟩, hc⟩ := m_perm q hq
  have md : ∀ x, x < 4 → ∀ z, z % E x < E x := fun x hx z => Nat.mod_lt _ (hE x hx)
  simp only [cn_dec, Nat.add_zero]
  rcases hc j hj with e | e | e | e
  · rw [e, va_up_self]; exact md _ h0 _
  · rw [e, va_up_ne _ _ (Ne.symm n01), va_up_self]; exact md _ h1 _
  · rw [e, va_up_ne _ _ (Ne.symm n02), va_up_ne _ _ (Ne.symm n12), va_up_self]; exact md _ h2 _
  · rw [e, va_up_ne _ _ (Ne.symm n03), va_up_ne _ _ (Ne.symm n13), va_up_ne _ _ (Ne.symm n23), va_up_self]; exact md _ h3 _
theorem m_ends_eq (fn : Nat → Nat) (y z k L Rz C : Nat) : m_ends fn y z k L Rz C 0 = min y L ∧ m_ends fn y z k L Rz C 1 = min z Rz ∧ m_ends fn y z k L Rz C 2 = min k C ∧ m_ends fn y z k L Rz C 3 = 4 := by
  simp [m_ends, va_up]
def co_run (jp : Nat → Nat) (L Rz C : Nat) (S : (Nat → Nat) × lS) (o y z k : Nat) : (Nat → Nat) × lS := (m_ends S.1 y z k L Rz C, cn_it jp (m_ends S.1 y z k L Rz C) o ((m_ends S.1 y z k L Rz C) 0 * (m_ends S.1 y z k L Rz C) 1 * (m_ends S.1 y z k L Rz C) 2 * 4) S.2)
def co_prt (jpr jp : Nat → Nat) (L Rz C : Nat) (S : (Nat → Nat) × lS) : Nat → (Nat → Nat) × lS
  | 0 => S
  | i + 1 => co_run jp L Rz C (co_prt jpr jp L Rz C S i) (jpr (4 * i)) (jpr (4 * i + 1)) (jpr (4 * i + 2)) (jpr (4 * i + 3))
def co_start (X : lS) : lS := (X.1, 0, X.2.2.1, m_fill false 384 X.2.2.2)
theorem co_start_ok {X : lS} : cJ (co_start X) := (m_cnt_z 384).symm
def co_list (jpr jp : Nat → Nat) (L Rz C mpt : Nat) (jen : Nat → Nat) (X : lS) : (Nat → Nat) × lS := if mpt = 0 then co_run jp L Rz C (co_prt jpr jp L Rz C (jen, co_start X) mpt) 0 8 4 3 else co_prt jpr jp L Rz C (jen, co_start X) mpt
def m_bg (b : Bool) : Nat := if b then 0 else 8
theorem m_cl_lo {v : Int32} {lo hi : Nat} (h : v < nI lo) : m_cl v lo hi = lo := by unfold m_cl; rw [if_pos h]
theorem m_cl_hi {v : Int32} {lo hi : Nat} (h1 : lo ≤ hi) (h2 : hi < 2 ^ 31) (h : nI hi < v) : m_cl v lo hi = hi := by
  have e1 := nI_toI9 (show lo < 2 ^ 31 by omega)
  have e2 := nI_toI9 h2
  unfold m_cl
  rw [Int32.lt_iff_toInt_lt, e2] at h
  rw [if_neg (by rw [Int32.lt_iff_toInt_lt, e1]; omega), if_pos (by rw [Int32.lt_iff_toInt_lt, e2]; exact h)]
theorem m_cl_in {v : Int32} {lo hi : Nat} (h2 : lo < 2 ^ 31) (h3 : nI lo ≤ v) (h4 : v ≤ nI hi) : v = nI (m_cl v lo hi) := by
  unfold m_cl
  have h5 : ¬ v < 0 := by
    rw [Int32.lt_iff_toInt_lt]
    rw [Int32.le_iff_toInt_le] at h3 h4
    rw [nI_toI9 h2] at h3
    show ¬ v.toInt < 0
    omega
  rw [if_neg (Int32.not_lt.mpr h3), if_neg (Int32.not_lt.mpr h4), nI_back h5]

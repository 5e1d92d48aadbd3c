section QO
variable {p : Program} {l : Launch} {e : Env} {R : Room} {s : State} {m : MethodId} {args : Array Value} {below : List Frame} {meth : Method} {c : Code} {H : Heap} {locs : List Loc} {cells slots : Nat} {Q : State → Prop}
variable {cc : ByteArray} {pc : Nat} {ls : Array Slot} {rest : List Value} {D : va_G} {cl : List vw_C} {tys : List (ClassId × FieldType)} {ws : va_W} {A : Nat → Prop} {H0 : Heap} {a : Nat}
theorem q_upOO (f : Nat → Option Nat) (k : Nat) (v : Option Nat) : upd (fun j => oI (f j)) k (oI v) = fun j => oI (va_up f k v j) := by
  funext j
  by_cases h : j = k
  · simp [upd, va_up, h]
  · simp [upd, va_up, h]
theorem qoo_ast (hx : p.tables.exec = Jvm.exec) (hb : c.code = cc) (hK : va_K D cl tys s) (hP : va_P D cl ws H) (hD : va_D A ws) (hS : va_S A H0 H locs) (q0 t0 : Nat) {cA : ClassId} {n : Nat} {f : Nat → Option Nat} (ha : ws[q0]? = some (a, .inl (cA, n, .inl (fun j => oI (f j))))) (ht : tys[t0]? = some (cA, .int)) {k : Nat} {v : Option Nat} (hk : k < n) (hn : n < 2 ^ 31) (hdg : decode cc pc = .ok (.iastore, 1))
    (kk : ∀ (H1 : Heap) (locs1 : List Loc), va_P D cl (ws.set q0 (a, .inl (cA, n, .inl (fun j => oI (va_up f k v j))))) H1 → va_D A (ws.set q0 (a, .inl (cA, n, .inl (fun j => oI (va_up f k v j))))) → va_S A H0 H1 locs1 → W p l e R s m args below meth c H1 locs1 cells slots Q (F0 m (pc + 1) ls rest)) : W p l e R s m args below meth c H locs cells slots Q (F0 m pc ls (.int (oI v) :: .int (nI k) :: .ref a :: rest)) :=
  va_iast hx hb hK hP hD hS q0 t0 ha ht (vp_in_nI hk hn) hdg (fun H1 locs1 h1 h2 h3 => by
    rw [nI_clamp (by omega), q_upOO] at h1 h2
    exact kk H1 locs1 h1 h2 h3)
end QO
theorem b2n_t {b : Bool} (h : b2n b = 1) : b = true := by cases b <;> first | rfl | (exact absurd h (by decide))
theorem b2n_f {b : Bool} (h : ¬ b2n b = 1) : b = false := by cases b <;> first | rfl | (exact absurd rfl h)
theorem b2n_p {b : Bool} (h : 0 < b2n b) : b = true := by cases b <;> first | rfl | (exact absurd h (by decide))
theorem b2n_z {b : Bool} (h : b2n b = 0) : b = false := by cases b <;> first | rfl | (exact absurd h (by decide))
theorem oI_none {o : Option Nat} (h : oI o = -1) (hb : ∀ n, o = some n → n < 2 ^ 31) : o = none := by
  cases o with
  | none => rfl
  | some n => exact absurd h (nI_nm1 (hb n rfl))
theorem va_up_id {α : Type} (f : Nat → α) (k : Nat) : va_up f k (f k) = f := by
  funext j
  unfold va_up
  by_cases h : j = k
  · rw [if_pos h, h]
  · rw [if_neg h]
theorem va_up_up {α : Type} (f : Nat → α) (k : Nat) (v w : α) : va_up (va_up f k v) k w = va_up f k w := by
  funext j
  unfold va_up
  by_cases h : j = k
  · rw [if_pos h, if_pos h]
  · rw [if_neg h, if_neg h, if_neg h]
/-! the reference's bits -/
/-- the fault, how far, the bits left, the byte under way, the last byte, how many bytes are drafted, the draft -/
abbrev mS : Type := Nat × Nat × Nat × Nat × Nat × Nat × (Nat → Nat)
def r_push (s : mS) (b : Nat) : mS := (s.1, s.2.1, s.2.2.1, s.2.2.2.1, b, (if s.2.2.2.2.2.1 < 6008 then s.2.2.2.2.2.1 + 1 else s.2.2.2.2.2.1), (if s.2.2.2.2.2.1 < 6008 then va_up s.2.2.2.2.2.2 s.2.2.2.2.2.1 b else s.2.2.2.2.2.2))
def r_put (s : mS) (d : Bool) : mS :=
  if s.2.2.1 - 1 = 0 then (s.1, s.2.1, m_rl (m_wc s.2.2.2.1 s.2.2.1 d), 0, (r_push s (m_wc s.2.2.2.1 s.2.2.1 d)).2.2.2.2) else (s.1, s.2.1, s.2.2.1 - 1, m_wc s.2.2.2.1 s.2.2.1 d, s.2.2.2.2)
def r_ft (f : Nat → Nat) (n : Nat) (s : mS) : Bool × mS :=
  if s.2.1 = n ∨ (s.2.2.2.2.1 = 255 ∧ 127 < f s.2.1) then (false, (if s.2.1 = n then 1 else 2), s.2) else (true, s.1, s.2.1 + 1, m_rl s.2.2.2.2.1, f s.2.1, f s.2.1, s.2.2.2.2.2)
def r_tk (s : mS) : Bool × mS := (decide (s.2.2.2.1 / 2 ^ (s.2.2.1 - 1) &&& 1 = 1), s.1, s.2.1, s.2.2.1 - 1, s.2.2.2)
def r_gt (f : Nat → Nat) (n : Nat) (s : mS) : Bool × mS :=
  if s.1 = 0 then (if s.2.2.1 = 0 then (if (r_ft f n s).1 = true then r_tk (r_ft f n s).2 else (false, (r_ft f n s).2)) else r_tk s) else (false, s)
def bitM (rd : Bool) (f : Nat → Nat) (n : Nat) (s : mS) (d : Bool) : Bool × mS := if rd = true then r_gt f n s else (d, r_put s d)
/-- the bits' state is sound -/
def okM (rd : Bool) (n : Nat) (s : mS) : Prop := (s.2.2.1 ≤ 8 ∧ (rd = false → 1 ≤ s.2.2.1)) ∧ s.2.2.2.1 < 256 ∧ s.2.2.2.2.1 < 256 ∧ s.2.1 ≤ n ∧ s.1 < 4 ∧ s.2.2.2.2.2.1 ≤ 6008 ∧ (∀ j, s.2.2.2.2.2.2 j < 256) ∧ (rd = false → s.1 = 0)
theorem m_rl_le (k : Nat) : 7 ≤ m_rl k ∧ m_rl k ≤ 8 := by unfold m_rl; split <;> omega
theorem r_push_ok {s : mS} {b : Nat} (h1 : s.2.2.2.2.2.1 ≤ 6008) (h2 : ∀ j, s.2.2.2.2.2.2 j < 256) (hb : b < 256) : (r_push s b).2.2.2.2.2.1 ≤ 6008 ∧ ∀ j, (r_push s b).2.2.2.2.2.2 j < 256 := by
  unfold r_push
  by_cases h : s.2.2.2.2.2.1 < 6008
  · rw [if_pos h, if_pos h]
    exact ⟨by show s.2.2.2.2.2.1 + 1 ≤ 6008; omega, m_up_lt h2 hb⟩
  · rw [if_neg h, if_neg h]
    exact ⟨h1, h2⟩
theorem r_put_ok {n : Nat} {s : mS} {d : Bool} (h : okM false n s) : okM false n (r_put s d) := by
  obtain ⟨⟨h1, h2⟩, h3, h4, h5, h6, h7, h8, h9⟩ := h
  have h2 := h2 rfl
  have hw := m_wc_lt (d := d) h3 h1
  have hp := r_push_ok (b := m_wc s.2.2.2.1 s.2.2.1 d) h7 h8 hw
  have hl := m_rl_le (m_wc s.2.2.2.1 s.2.2.1 d)
  unfold r_put
  by_cases e : s.2.2.1 - 1 = 0
  · rw [if_pos e]
    exact ⟨⟨hl.2, fun _ => by show 1 ≤ m_rl _; omega⟩, by show 0 < 256; omega, hw, h5, h6, hp.1, hp.2, h9⟩
  · rw [if_neg e]
    exact ⟨⟨by show s.2.2.1 - 1 ≤ 8; omega, fun _ => by show 1 ≤ s.2.2.1 - 1; omega⟩, hw, h4, h5, h6, h7, h8, h9⟩
theorem r_ft_ok {f : Nat → Nat} {n : Nat} {s : mS} (hf : ∀ j, f j < 256) (h : okM true n s) : okM true n (r_ft f n s).2 := by
  obtain ⟨⟨h1, h2⟩, h3, h4, h5, h6, h7, h8, h9⟩ := h
  unfold r_ft
  by_cases e : s.2.1 = n ∨ (s.2.2.2.2.1 = 255 ∧ 127 < f s.2.1)
  · rw [if_pos e]
    refine ⟨⟨h1, fun q => Bool.noConfusion q⟩, h3, h4, h5, ?_, h7, h8, fun q => Bool.noConfusion q⟩
    show (if s.2.1 = n then 1 else 2) < 4
    split <;> omega
  · rw [if_neg e]
    refine ⟨⟨(m_rl_le _).2, fun q => Bool.noConfusion q⟩, hf _, hf _, ?_, h6, h7, h8, fun q => Bool.noConfusion q⟩
    show s.2.1 + 1 ≤ n
    omega
theorem r_ft_t {f : Nat → Nat} {n : Nat} {s : mS} (hf : ∀ j, f j < 256) (h : (r_ft f n s).1 = true) : 7 ≤ (r_ft f n s).2.2.2.1 ∧ (r_ft f n s).2.2.2.1 ≤ 8 ∧ (r_ft f n s).2.2.2.2.1 < 256 := by
  unfold r_ft at h ⊢
  by_cases e : s.2.1 = n ∨ (s.2.2.2.2.1 = 255 ∧ 127 < f s.2.1)
  · rw [if_pos e] at h; exact Bool.noConfusion h
  · rw [if_neg e]; exact ⟨(m_rl_le _).1, (m_rl_le _).2, hf _⟩
theorem r_tk_ok {n : Nat} {s : mS} (h : okM true n s) : okM true n (r_tk s).2 := by
  obtain ⟨⟨h1, h2⟩, h3, h4, h5, h6, h7, h8, h9⟩ := h
  exact ⟨⟨by show s.2.2.1 - 1 ≤ 8; omega, fun q => Bool.noConfusion q⟩, h3, h4, h5, h6, h7, h8, fun q => Bool.noConfusion q⟩
theorem r_gt_ok {f : Nat → Nat} {n : Nat} {s : mS} (hf : ∀ j, f j < 256) (h : okM true n s) : okM true n (r_gt f n s).2 := by
  unfold r_gt
  by_cases e : s.1 = 0
  · rw [if_pos e]
    by_cases e2 : s.2.2.1 = 0
    · rw [if_pos e2]
      by_cases e3 : (r_ft f n s).1 = true
      · rw [if_pos e3]; exact r_tk_ok (r_ft_ok hf h)
      · rw [if_neg e3]; exact r_ft_ok hf h
    · rw [if_neg e2]; exact r_tk_ok h
  · rw [if_neg e]; exact h
theorem okM_bit {rd : Bool} {f : Nat → Nat} {n : Nat} {s : mS} (hf : ∀ j, f j < 256) (h : okM rd n s) (d : Bool) : okM rd n (bitM rd f n s d).2 := by
  cases rd with
  | true => exact r_gt_ok hf h
  | false => exact r_put_ok h
theorem okM_num {rd : Bool} {f : Nat → Nat} {n : Nat} (hf : ∀ j, f j < 256) (due : Nat → Bool) : ∀ (i v : Nat) (s : mS), okM rd n s → okM rd n (t_num (bitM rd f n) due i v s).2
  | 0, _, _, h => h
  | i + 1, v, s, h => okM_num hf due i _ _ (okM_bit hf h _)
theorem m_and1 (x : Nat) : x &&& 1 = b2n (decide (x &&& 1 = 1)) := by
  rw [Nat.and_one_is_mod]
  rcases Nat.mod_two_eq_zero_or_one x with h | h <;> rw [h] <;> rfl
def m_dv (v : Int32) (i : Nat) : Bool := decide ((v >>> (nI i &&& 31)) &&& nI 1 = nI 1)
theorem m_dv_eq (v : Int32) (i : Nat) : (v >>> (nI i &&& 31)) &&& nI 1 = nI (b2n (m_dv v i)) := by
  unfold m_dv
  generalize v >>> (nI i &&& 31) = x
  have h2 : (x.toBitVec &&& 1#32).toNat = x.toBitVec.toNat % 2 := by
    rw [BitVec.toNat_and]
    exact Nat.and_one_is_mod _
  by_cases h : x &&& nI 1 = nI 1
  · rw [decide_eq_true h]; exact h
  · rw [decide_eq_false h]
    show x &&& nI 1 = nI 0
    apply Int32.toBitVec_inj.1
    show x.toBitVec &&& 1#32 = 0#32
    apply BitVec.eq_of_toNat_eq
    rcases Nat.mod_two_eq_zero_or_one x.toBitVec.toNat with q | q
    · rw [h2, q]; rfl
    · exfalso
      apply h
      apply Int32.toBitVec_inj.1
      show x.toBitVec &&& 1#32 = 1#32
      apply BitVec.eq_of_toNat_eq
      rw [h2, q]; rfl
/-! the reference's trees -/
def r_first (jps : Nat → Nat) (b L : Nat) : Nat := m_first (fun j => jps (8 * b + j)) 0 L
theorem r_first_le (jps : Nat → Nat) (b L : Nat) : r_first jps b L ≤ L := m_first_le _ _ _
theorem r_first_at {jps : Nat → Nat} {b L i : Nat} (hz : ∀ j, j < i → jps (8 * b + j) = 0) (hi : i < L) (hp : 0 < jps (8 * b + i)) : r_first jps b L = i :=
  m_first_at (ps := fun j => jps (8 * b + j)) (b := 0) (fun j hj => by show jps (8 * b + (0 * L + j)) = 0; rw [Nat.zero_mul, Nat.zero_add]; exact hz j hj) hi (by show 0 < jps (8 * b + (0 * L + i)); rw [Nat.zero_mul, Nat.zero_add]; exact hp)
theorem r_first_no {jps : Nat → Nat} {b L : Nat} (hz : ∀ j, j < L → jps (8 * b + j) = 0) : r_first jps b L = L :=
  m_first_no (ps := fun j => jps (8 * b + j)) (b := 0) (fun j hj => by show jps (8 * b + (0 * L + j)) = 0; rw [Nat.zero_mul, Nat.zero_add]; exact hz j hj)
def m_acr (w k : Nat) : Nat := (w + 1 * 2 ^ k - 1) / 2 ^ k
def m_off (w h : Nat) : Nat → Nat
  | 0 => 0
  | k + 1 => m_off w h k + m_acr w k * m_acr h k
def m_lev (w h : Nat) : Nat := if w ≤ 1 ∧ h ≤ 1 then 0 else if w ≤ 2 ∧ h ≤ 2 then 1 else 2
theorem m_lev_le (w h : Nat) : m_lev w h ≤ 2 := by unfold m_lev; split; omega; split <;> omega
theorem m_lev_at {w h n : Nat} (hw : w ≤ 4) (hh : h ≤ 4) (h1 : ∀ j, j < n → ¬ (w ≤ 1 * 2 ^ j ∧ h ≤ 1 * 2 ^ j)) (h2 : w ≤ 1 * 2 ^ n ∧ h ≤ 1 * 2 ^ n) : m_lev w h = n := by
  have e0 : 2 ^ 0 = 1 := rfl
  have e1 : 2 ^ 1 = 2 := rfl
  have e2 : 2 ^ 2 = 4 := rfl
  match n, h1, h2 with
  | 0, h1, h2 => unfold m_lev; rw [if_pos (by omega)]
  | 1, h1, h2 =>
    have q := h1 0 (by omega)
    unfold m_lev; rw [if_neg (by omega), if_pos (by omega)]
  | 2, h1, h2 =>
    have q := h1 0 (by omega)
    have q1 := h1 1 (by omega)
    unfold m_lev; rw [if_neg (by omega), if_neg (by omega)]
  | n + 3, h1, h2 =>
    have q := h1 2 (by omega)
    omega
theorem m_lev_lt {w h n : Nat} (hw : w ≤ 4) (hh : h ≤ 4) (h1 : ¬ (w ≤ 1 * 2 ^ n ∧ h ≤ 1 * 2 ^ n)) : n < 2 := by
  rcases Nat.lt_or_ge n 2 with q | q
  · exact q
  · have : 2 ^ 2 ≤ 2 ^ n := Nat.pow_le_pow_right (by omega) q
    omega
theorem m_acr_le {w k : Nat} (hw : 1 ≤ w) : m_acr w k ≤ w := by
  unfold m_acr
  have h0 : 0 < 2 ^ k := Nat.pow_pos (by omega)
  rw [Nat.div_le_iff_le_mul_add_pred h0]
  have : 1 * w ≤ 2 ^ k * w := Nat.mul_le_mul_right w h0
  omega
theorem m_off_le {w h : Nat} (hw : 1 ≤ w ∧ w ≤ 4) (hh : 1 ≤ h ∧ h ≤ 4) : ∀ k, m_off w h k ≤ 16 * k
  | 0 => Nat.le_refl _
  | k + 1 => by
    have h1 := m_off_le hw hh k
    have h2 : m_acr w k * m_acr h k ≤ 4 * 4 := Nat.mul_le_mul (Nat.le_trans (m_acr_le hw.1) hw.2) (Nat.le_trans (m_acr_le hh.1) hh.2)
    rw [m_off]; omega
/-- the least value below a node -/
def m_lst (own : Nat → Nat) (w lv x y : Nat) : Nat → Nat
  | 0 => 1000
  | k + 1 => if (k % w / 2 ^ lv = x ∧ k / w / 2 ^ lv = y) ∧ own k < m_lst own w lv x y k then own k else m_lst own w lv x y k
theorem m_lst_le (own : Nat → Nat) (w lv x y : Nat) : ∀ k, m_lst own w lv x y k ≤ 1000
  | 0 => Nat.le_refl _
  | k + 1 => by
    have h := m_lst_le own w lv x y k
    rw [m_lst]; split <;> omega
def r_own (zr : Bool) (jz jps : Nat → Nat) (L base : Nat) (k : Nat) : Nat := if zr = true then jz (base + k) else r_first jps (base + k) L
/-- the values and the nodes on the way to a block, by levels -/
def r_vl (rd zr : Bool) (jz jps : Nat → Nat) (L base w h b : Nat) : Nat → Nat := fun l => if rd = true then 0 else m_lst (r_own zr jz jps L base) w l (b % w / 2 ^ l) (b / w / 2 ^ l) (w * h)
/-- a node, from the tree's first on -/
def r_node (w h b l : Nat) : Nat := m_off w h l + b / w / 2 ^ l * m_acr w l + b % w / 2 ^ l
theorem r_node_lt : ∀ w, w < 5 → ∀ h, h < 4 → ∀ b, b < w * h → ∀ l, l < m_lev w h + 1 → r_node w h b l < 17 := by decide +kernel
def r_qq (tr w h b : Nat) : Nat → Nat := fun l => tr + r_node w h b l
theorem r_node_0 {w h b : Nat} (hw : 1 ≤ w) : r_node w h b 0 = b := by
  unfold r_node m_off m_acr
  have h1 := Nat.div_add_mod b w
  rw [Nat.pow_zero, Nat.div_one, Nat.div_one, Nat.div_one, show w + 1 * 1 - 1 = w by omega, Nat.zero_add, Nat.mul_comm]
  exact h1
section RB
variable (bit : mS → Bool → Bool × mS)
/-- a node is told up to en -/
def r_lp (z3 : Bool) (v nd en : Nat) : Nat → Nat → (Nat → Bool) → mS → Nat × (Nat → Bool) × mS
  | 0, lw, dn, s => (lw, dn, s)
  | i + 1, lw, dn, s => if lw < en ∧ dn nd = false ∧ s.1 = 0 then (if z3 = true ∧ 30 < lw then (lw, dn, (3, s.2)) else if (bit s (decide (v = lw))).1 = true then (lw, va_up dn nd true, (bit s (decide (v = lw))).2) else r_lp z3 v nd en i (lw + 1) dn (bit s (decide (v = lw))).2) else (lw, dn, s)
def r_nd (z3 : Bool) (v nd en : Nat) (x : tX mS) : tX mS :=
  ((r_lp bit z3 v nd en (en - max x.1 (x.2.1 nd)) (max x.1 (x.2.1 nd)) x.2.2.1 x.2.2.2).1, va_up x.2.1 nd (r_lp bit z3 v nd en (en - max x.1 (x.2.1 nd)) (max x.1 (x.2.1 nd)) x.2.2.1 x.2.2.2).1, (r_lp bit z3 v nd en (en - max x.1 (x.2.1 nd)) (max x.1 (x.2.1 nd)) x.2.2.1 x.2.2.2).2)
/-- the nodes q (i - 1) .. q 0, from the top one down -/
def r_rows (z3 : Bool) (vl q : Nat → Nat) (en : Nat) : Nat → tX mS → tX mS
  | 0, x => x
  | i + 1, x => r_rows z3 vl q en i (r_nd bit z3 (vl i) (q i) en x)
theorem r_lp_stop {z3 : Bool} {v nd en i lw : Nat} {dn : Nat → Bool} {s : mS} (h : ¬ (lw < en ∧ dn nd = false ∧ s.1 = 0)) : r_lp bit z3 v nd en i lw dn s = (lw, dn, s) := by
  cases i with
  | zero => rfl
  | succ i => rw [r_lp, if_neg h]
theorem r_lp_3 {z3 : Bool} {v nd en lw : Nat} {dn : Nat → Bool} {s : mS} (h1 : lw < en) (h2 : dn nd = false) (h3 : s.1 = 0) (h4 : z3 = true ∧ 30 < lw) : r_lp bit z3 v nd en (en - lw) lw dn s = r_lp bit z3 v nd en (en - lw) lw dn (3, s.2) := by
  rw [r_lp_stop bit (lw := lw) (dn := dn) (s := (3, s.2)) (fun h => by have := h.2.2; exact absurd this (by show ¬ 3 = 0; omega))]
  rw [show en - lw = (en - (lw + 1)) + 1 by omega, r_lp, if_pos ⟨h1, h2, h3⟩, if_pos h4]
theorem r_lp_t {z3 : Bool} {v nd en lw : Nat} {dn : Nat → Bool} {s : mS} (h1 : lw < en) (h2 : dn nd = false) (h3 : s.1 = 0) (h4 : ¬ (z3 = true ∧ 30 < lw)) (h5 : (bit s (decide (v = lw))).1 = true) : r_lp bit z3 v nd en (en - lw) lw dn s = r_lp bit z3 v nd en (en - lw) lw (va_up dn nd true) (bit s (decide (v = lw))).2 := by
  rw [r_lp_stop bit (lw := lw) (dn := va_up dn nd true) (fun h => by rw [va_up_self] at h; cases h.2.1)]
  rw [show en - lw = (en - (lw + 1)) + 1 by omega, r_lp, if_pos ⟨h1, h2, h3⟩, if_neg h4, if_pos h5]
theorem r_lp_f {z3 : Bool} {v nd en lw : Nat} {dn : Nat → Bool} {s : mS} (h1 : lw < en) (h2 : dn nd = false) (h3 : s.1 = 0) (h4 : ¬ (z3 = true ∧ 30 < lw)) (h5 : (bit s (decide (v = lw))).1 = false) : r_lp bit z3 v nd en (en - lw) lw dn s = r_lp bit z3 v nd en (en - (lw + 1)) (lw + 1) dn (bit s (decide (v = lw))).2 := by
  rw [show en - lw = (en - (lw + 1)) + 1 by omega, r_lp, if_pos ⟨h1, h2, h3⟩, if_neg h4, if_neg (by rw [h5]; decide)]
/-- how wide the length is: as wide as the limit lets it be -/
def r_fw (rd : Bool) (w : Nat) (s : mS) : mS := if rd = true ∧ 24 < w then (3, s.2) else s
def r_wid (rd : Bool) (due : Nat → Bool) : Nat → Nat → mS → Nat × mS
  | 0, w, s => (w, s)
  | n + 1, w, s => if s.1 = 0 then (if (bit s (due w)).1 = true then r_wid rd due n (w + 1) (r_fw rd (w + 1) (bit s (due w)).2) else (w, (bit s (due w)).2)) else (w, s)
theorem r_wid_stop {rd : Bool} {due : Nat → Bool} {n w : Nat} {s : mS} (h : ¬ s.1 = 0) : r_wid bit rd due n w s = (w, s) := by
  cases n with
  | zero => rfl
  | succ n => rw [r_wid, if_neg h]
theorem r_wid_t {rd : Bool} {due : Nat → Bool} {w : Nat} {s : mS} (hw : w < 40) (h : s.1 = 0) (h2 : (bit s (due w)).1 = true) : r_wid bit rd due (40 - w) w s = r_wid bit rd due (40 - (w + 1)) (w + 1) (r_fw rd (w + 1) (bit s (due w)).2) := by
  rw [show 40 - w = (40 - (w + 1)) + 1 by omega, r_wid, if_pos h, if_pos h2]
theorem r_wid_f {rd : Bool} {due : Nat → Bool} {w : Nat} {s : mS} (hw : w < 40) (h : s.1 = 0) (h2 : (bit s (due w)).1 = false) : r_wid bit rd due (40 - w) w s = (w, (bit s (due w)).2) := by
  rw [show 40 - w = (40 - (w + 1)) + 1 by omega, r_wid, if_pos h, if_neg (by rw [h2]; decide)]
/-- the length: the answer, how far the lengths have grown, the state; w is the pair behind the ones -/
def r_l2 (dn : Nat → Bool) (c : Nat) (gr : Nat → Nat) (b : Nat) (w : Nat × mS) : Nat × (Nat → Nat) × mS :=
  if w.2.1 = 0 then ((t_num bit dn w.1 0 w.2).1, va_up gr b (w.1 - m_pow c), (t_num bit dn w.1 0 w.2).2) else (0, va_up gr b (w.1 - m_pow c), w.2)
def r_len (rd : Bool) (due dn : Nat → Bool) (c : Nat) (gr : Nat → Nat) (b : Nat) (s : mS) : Nat × (Nat → Nat) × mS :=
  r_l2 bit dn c gr b (r_wid bit rd due (40 - (gr b + m_pow c)) (gr b + m_pow c) (r_fw rd (gr b + m_pow c) s))
theorem r_fw_2 {rd : Bool} {w : Nat} {s : mS} : (r_fw rd w s).2 = s.2 := by unfold r_fw; split <;> rfl
end RB
theorem okM_3 {rd : Bool} {n : Nat} {s : mS} (hr : rd = true) (h : okM rd n s) : okM rd n (3, s.2) := ⟨h.1, h.2.1, h.2.2.1, h.2.2.2.1, by show 3 < 4; omega, h.2.2.2.2.2.1, h.2.2.2.2.2.2.1, fun q => by rw [hr] at q; exact Bool.noConfusion q⟩
theorem okM_lp {rd z3 : Bool} {f : Nat → Nat} {n v nd en : Nat} (hf : ∀ j, f j < 256) (hz : z3 = true → rd = true) : ∀ (i lw : Nat) (dn : Nat → Bool) (s : mS), okM rd n s → okM rd n (r_lp (bitM rd f n) z3 v nd en i lw dn s).2.2
  | 0, _, _, _, h => h
  | i + 1, lw, dn, s, h => by
    rw [r_lp]
    split
    · split
      · rename_i q; exact okM_3 (hz q.1) h
      · split
        · exact okM_bit hf h _
        · exact okM_lp hf hz i _ _ _ (okM_bit hf h _)
    · exact h
theorem okM_rows {rd z3 : Bool} {f : Nat → Nat} {n en : Nat} {vl q : Nat → Nat} (hf : ∀ j, f j < 256) (hz : z3 = true → rd = true) : ∀ (i : Nat) (x : tX mS), okM rd n x.2.2.2 → okM rd n (r_rows (bitM rd f n) z3 vl q en i x).2.2.2
  | 0, _, h => h
  | i + 1, x, h => by rw [r_rows]; exact okM_rows hf hz i _ (okM_lp hf hz _ _ _ _ h)
theorem r_lp_low (bit : mS → Bool → Bool × mS) {z3 : Bool} {v nd en B : Nat} (he : en < B) : ∀ (i lw : Nat) (dn : Nat → Bool) (s : mS), lw < B → (r_lp bit z3 v nd en i lw dn s).1 < B
  | 0, _, _, _, h => h
  | i + 1, lw, dn, s, h => by
    rw [r_lp]
    split
    · rename_i h1
      split
      · exact h
      · split
        · exact h
        · exact r_lp_low bit he i _ _ _ (by have := h1.1; omega)
    · exact h
theorem r_rows_lo (bit : mS → Bool → Bool × mS) {z3 : Bool} {vl q : Nat → Nat} {en B : Nat} (he : en < B) : ∀ (i : Nat) (x : tX mS), x.1 < B → (∀ j, x.2.1 j < B) → (r_rows bit z3 vl q en i x).1 < B ∧ ∀ j, (r_rows bit z3 vl q en i x).2.1 j < B
  | 0, _, h1, h => ⟨h1, h⟩
  | i + 1, x, h1, h => by
    rw [r_rows]
    have hm : max x.1 (x.2.1 (q i)) < B := by have := h (q i); omega
    exact r_rows_lo bit he i _ (r_lp_low bit he _ _ _ _ hm) (m_up_lt h (r_lp_low bit he _ _ _ _ hm))
theorem okM_pass {rd : Bool} {f : Nat → Nat} {n : Nat} (hf : ∀ j, f j < 256) {d1 d2 : Bool} {f2 f5 f7 : Nat → Bool} {s : mS} (h : okM rd n s) : okM rd n (t_pass (bitM rd f n) d1 d2 f2 f5 f7 s).2 := by
  unfold t_pass
  have h1 := okM_bit hf h d1
  have h2 := okM_bit hf h1 d2
  split
  · dsimp only; exact h1
  · split
    · dsimp only; exact h2
    · unfold t_p2
      have h3 := okM_num hf f2 2 0 _ h2
      split
      · dsimp only; exact h3
      · unfold t_p5
        have h4 := okM_num hf f5 5 0 _ h3
        split
        · dsimp only; exact h4
        · dsimp only; exact okM_num hf f7 7 0 _ h4
theorem okM_fw {rd : Bool} {n w : Nat} {s : mS} (h : okM rd n s) : okM rd n (r_fw rd w s) := by
  unfold r_fw
  split
  · rename_i q; exact okM_3 q.1 h
  · exact h
theorem okM_wid {rd : Bool} {f : Nat → Nat} {n : Nat} {due : Nat → Bool} (hf : ∀ j, f j < 256) : ∀ (i w : Nat) (s : mS), okM rd n s → okM rd n (r_wid (bitM rd f n) rd due i w s).2
  | 0, _, _, h => h
  | i + 1, w, s, h => by
    rw [r_wid]
    split
    · split
      · exact okM_wid hf i _ _ (okM_fw (okM_bit hf h _))
      · exact okM_bit hf h _
    · exact h
theorem okM_l2 {rd : Bool} {f : Nat → Nat} {n : Nat} (hf : ∀ j, f j < 256) {dn : Nat → Bool} {c b : Nat} {gr : Nat → Nat} {w : Nat × mS} (h : okM rd n w.2) : okM rd n (r_l2 (bitM rd f n) dn c gr b w).2.2 := by
  unfold r_l2
  split
  · exact okM_num hf dn _ _ _ h
  · exact h
theorem okM_len {rd : Bool} {f : Nat → Nat} {n : Nat} (hf : ∀ j, f j < 256) {due dn : Nat → Bool} {c b : Nat} {gr : Nat → Nat} {s : mS} (h : okM rd n s) : okM rd n (r_len (bitM rd f n) rd due dn c gr b s).2.2 := okM_l2 hf (okM_wid hf _ _ _ (okM_fw h))
/-! a head's end -/
def r_z (s : mS) : mS := (s.1, s.2.1, 0, s.2.2.2)
def r_f1 (s : mS) : mS := if s.2.2.2.2.1 = 255 ∨ s.2.2.1 < 8 then r_push s s.2.2.2.1 else s
def r_fi (s : mS) : mS := if (r_f1 s).2.2.2.2.1 = 255 then r_push (r_f1 s) 0 else r_f1 s
def r_fin (rd : Bool) (f : Nat → Nat) (n : Nat) (s : mS) : mS := if rd = true then (if s.2.2.2.2.1 = 255 ∧ s.1 = 0 then r_z (r_ft f n (r_z s)).2 else r_z s) else r_fi s
theorem r_z_ok {n : Nat} {s : mS} (h : okM true n s) : okM true n (r_z s) := ⟨⟨Nat.zero_le _, fun q => Bool.noConfusion q⟩, h.2⟩
/-- the state behind a head: as before one begins, but for what a beginning sets -/
def okE (n : Nat) (s : mS) : Prop := s.2.1 ≤ n ∧ s.1 < 4 ∧ s.2.2.2.2.2.1 ≤ 6008 ∧ (∀ j, s.2.2.2.2.2.2 j < 256)
theorem okM_E {rd : Bool} {n : Nat} {s : mS} (h : okM rd n s) : okE n s := ⟨h.2.2.2.1, h.2.2.2.2.1, h.2.2.2.2.2.1, h.2.2.2.2.2.2.1⟩
theorem okE_push {n b : Nat} {s : mS} (h : okE n s) (hb : b < 256) : okE n (r_push s b) := ⟨h.1, h.2.1, (r_push_ok h.2.2.1 h.2.2.2 hb).1, (r_push_ok h.2.2.1 h.2.2.2 hb).2⟩
theorem okE_f1 {n : Nat} {s : mS} (h : okM false n s) : okE n (r_f1 s) := by
  unfold r_f1
  split
  · exact okE_push (okM_E h) h.2.1
  · exact okM_E h
theorem okE_fin {rd : Bool} {f : Nat → Nat} {n : Nat} {s : mS} (hf : ∀ j, f j < 256) (h : okM rd n s) : okE n (r_fin rd f n s) := by
  unfold r_fin
  cases rd with
  | true =>
    rw [if_pos rfl]
    split
    · exact okM_E (r_z_ok (r_ft_ok hf (r_z_ok h)))
    · exact okM_E (r_z_ok h)
  | false =>
    rw [if_neg (by decide)]
    unfold r_fi
    split
    · exact okE_push (okE_f1 h) (by omega)
    · exact okE_f1 h
theorem r_push_fl (s : mS) (b : Nat) : (r_push s b).1 = s.1 := rfl
theorem r_f1_fl (s : mS) : (r_f1 s).1 = s.1 := by unfold r_f1; split <;> rfl
theorem r_fin_fl {f : Nat → Nat} {n : Nat} {s : mS} (h : s.1 = 0) : (r_fin false f n s).1 = 0 := by
  unfold r_fin
  rw [if_neg (by decide)]
  unfold r_fi
  split
  · rw [r_push_fl, r_f1_fl]; exact h
  · rw [r_f1_fl]; exact h
def r_beg (rd : Bool) (s : mS) : mS := (s.1, s.2.1, m_bg rd, 0, 0, s.2.2.2.2.2)
theorem okM_beg {rd : Bool} {n : Nat} {s : mS} (h : okE n s) (h0 : rd = false → s.1 = 0) : okM rd n (r_beg rd s) := by
  refine ⟨⟨?_, fun q => ?_⟩, by show 0 < 256; omega, by show 0 < 256; omega, h.1, h.2.1, h.2.2.1, h.2.2.2, h0⟩
  · show m_bg rd ≤ 8; unfold m_bg; split <;> omega
  · subst q; show 1 ≤ m_bg false; decide
/-! a block of the reference -/
def r_had (rd : Bool) (jrf : Nat → Option Nat) (jps : Nat → Nat) (k y L : Nat) : Bool := if rd = true then (jrf k).isSome else decide (r_first jps k L < y)
abbrev pA (n : Nat) : Int32 := if 5 < n then nI 3 else nI n - nI 3
abbrev pB (n : Nat) : Int32 := if 36 < n then nI 31 else nI n - nI 6
abbrev pC (n : Nat) : Int32 := nI n - nI 37
abbrev fpM (rd : Bool) (f : Nat → Nat) (z n : Nat) (s : mS) : Nat × mS := t_pass (bitM rd f z) (decide (1 < n)) (decide (2 < n)) (m_dv (pA n)) (m_dv (pB n)) (m_dv (pC n)) s
abbrev flM (rd : Bool) (f : Nat → Nat) (z x d b : Nat) (gr : Nat → Nat) (s : mS) : Nat × (Nat → Nat) × mS := r_len (bitM rd f z) rd (fun w => decide (0 < d / 2 ^ w)) (m_dv (nI d)) x gr b s
/-- what the heads move: the lengths' growth, lows, dones; zeros, firsts, passes, lengths that are read; the bits -/
abbrev kS : Type := (Nat → Nat) × (Nat → Nat) × (Nat → Bool) × (Nat → Nat) × (Nat → Option Nat) × (Nat → Nat) × (Nat → Nat) × mS
def r_n (rd : Bool) (f : Nat → Nat) (z n : Nat) (s : mS) : Nat × mS := if s.1 = 0 then fpM rd f z n s else (1, s)
def r_ln (rd : Bool) (f : Nat → Nat) (z d b : Nat) (gr : Nat → Nat) (x : Nat × mS) : Nat × (Nat → Nat) × mS := if x.2.1 = 0 then flM rd f z x.1 d b gr x.2 else (0, gr, x.2)
def r_w {α : Type} (rd : Bool) (g : Nat → α) (i : Nat) (v : α) : Nat → α := if rd = true then va_up g i v else g
/-- passes and length of a block that comes; x, y: what the two tell -/
def r_b4 (rd : Bool) (i : Nat) (x : Nat × mS) (y : Nat × (Nat → Nat) × mS) (Z : kS) : kS := (y.2.1, Z.2.1, Z.2.2.1, Z.2.2.2.1, Z.2.2.2.2.1, r_w rd Z.2.2.2.2.2.1 i x.1, r_w rd Z.2.2.2.2.2.2.1 i y.1, y.2.2)
def r_b3 (rd : Bool) (f jps jln : Nat → Nat) (z i b : Nat) (Z : kS) : kS :=
  r_b4 rd i (r_n rd f z (jps i) Z.2.2.2.2.2.2.2) (r_ln rd f z (jln i) b Z.1 (r_n rd f z (jps i) Z.2.2.2.2.2.2.2)) Z
/-- the zero planes of a block that comes for the first time -/
def r_b2 (rd : Bool) (b y : Nat) (T : tX mS) (Z : kS) : kS := (Z.1, T.2.1, T.2.2.1, va_up Z.2.2.2.1 b (if rd = true then T.1 else Z.2.2.2.1 b), va_up Z.2.2.2.2.1 b (if rd = true then some y else Z.2.2.2.2.1 b), Z.2.2.2.2.2.1, Z.2.2.2.2.2.2.1, T.2.2.2)
def r_s (s : mS) (Z : kS) : kS := (Z.1, Z.2.1, Z.2.2.1, Z.2.2.2.1, Z.2.2.2.2.1, Z.2.2.2.2.2.1, Z.2.2.2.2.2.2.1, s)
def r_t (T : tX mS) (Z : kS) : kS := (Z.1, T.2.1, T.2.2.1, Z.2.2.2.1, Z.2.2.2.2.1, Z.2.2.2.2.2.1, Z.2.2.2.2.2.2.1, T.2.2.2)
/-- the tree of the first layers, and that of the zero planes -/
abbrev r_T (zr rd : Bool) (f jz jps : Nat → Nat) (z L base w h tr k en : Nat) (lo : Nat → Nat) (dn : Nat → Bool) (s : mS) : tX mS := r_rows (bitM rd f z) (zr && rd) (r_vl rd zr jz jps L base w h k) (r_qq tr w h k) en (m_lev w h + 1) (0, lo, dn, s)
def r_blk (rd : Bool) (f jz jps jln : Nat → Nat) (z L base w h tr k y : Nat) (Z : kS) : kS :=
  if r_had rd Z.2.2.2.2.1 jps (base + k) y L = true then
    (if (bitM rd f z Z.2.2.2.2.2.2.2 (decide (0 < jps (8 * (base + k) + y)))).1 = true ∧ (bitM rd f z Z.2.2.2.2.2.2.2 (decide (0 < jps (8 * (base + k) + y)))).2.1 = 0 then r_b3 rd f jps jln z (8 * (base + k) + y) (base + k) (r_s (bitM rd f z Z.2.2.2.2.2.2.2 (decide (0 < jps (8 * (base + k) + y)))).2 Z) else r_s (bitM rd f z Z.2.2.2.2.2.2.2 (decide (0 < jps (8 * (base + k) + y)))).2 Z)
  else
    (if (r_T false rd f jz jps z L base w h tr k (y + 1) Z.2.1 Z.2.2.1 Z.2.2.2.2.2.2.2).2.2.1 (tr + k) = true ∧ (r_T false rd f jz jps z L base w h tr k (y + 1) Z.2.1 Z.2.2.1 Z.2.2.2.2.2.2.2).2.2.2.1 = 0 then
      r_b3 rd f jps jln z (8 * (base + k) + y) (base + k) (r_b2 rd (base + k) y (r_T true rd f jz jps z L base w h (tr + 2448) k 1000 (r_T false rd f jz jps z L base w h tr k (y + 1) Z.2.1 Z.2.2.1 Z.2.2.2.2.2.2.2).2.1 (r_T false rd f jz jps z L base w h tr k (y + 1) Z.2.1 Z.2.2.1 Z.2.2.2.2.2.2.2).2.2.1 (r_T false rd f jz jps z L base w h tr k (y + 1) Z.2.1 Z.2.2.1 Z.2.2.2.2.2.2.2).2.2.2) Z)
    else r_t (r_T false rd f jz jps z L base w h tr k (y + 1) Z.2.1 Z.2.2.1 Z.2.2.2.2.2.2.2) Z)
/-- what holds all along the heads of the reference -/
def gdM (rd : Bool) (n : Nat) (Z : kS) : Prop := (∀ j, j < 1728 → Z.1 j ≤ (if rd = true then 25 else 16)) ∧ (∀ j, Z.2.1 j < 2 ^ 20) ∧ (∀ j k, Z.2.2.2.2.1 j = some k → k < 8) ∧ okM rd n Z.2.2.2.2.2.2.2
theorem r_log1 {x i : Nat} (h : 1 < x / 2 ^ i) (hx : x ≤ 164) : i < 8 ∧ 2 * 2 ^ i ≤ x := by
  have h0 : 0 < 2 ^ i := Nat.pow_pos (by omega)
  have h2 : 2 * 2 ^ i ≤ x := (Nat.le_div_iff_mul_le h0).mp h
  refine ⟨?_, h2⟩
  rcases Nat.lt_or_ge i 8 with q | q
  · exact q
  · have : 2 ^ 8 ≤ 2 ^ i := Nat.pow_le_pow_right (by omega) q
    omega
theorem r_log2 {x i : Nat} (h : x / 2 ^ i ≤ 1) : x < 2 * 2 ^ i := by
  have h0 : 0 < 2 ^ i := Nat.pow_pos (by omega)
  exact (Nat.div_lt_iff_lt_mul h0).mp (by omega)
theorem r_pow7 {x : Nat} (h : x ≤ 164) : m_pow x ≤ 7 := by
  have h1 := m_pow_le x
  rcases Nat.lt_or_ge (m_pow x) 8 with q | q
  · omega
  · exfalso
    have e : m_pow x = 8 := by omega
    have : ∀ x, x < 165 → m_pow x < 8 := by decide +kernel
    have := this x (by omega)
    omega
theorem r_fw_24 {rd : Bool} {w : Nat} {s : mS} (h : w ≤ 33) (h2 : rd = false → w ≤ 24) : (r_fw rd w s).1 = 0 → w ≤ 24 := by
  intro q
  unfold r_fw at q
  by_cases e : rd = true ∧ 24 < w
  · rw [if_pos e] at q; exact absurd q (by show ¬ 3 = 0; omega)
  · cases rd with
    | false => exact h2 rfl
    | true => exact Nat.not_lt.mp (fun z => e ⟨rfl, z⟩)
theorem r_bitW {rd : Bool} {f : Nat → Nat} {n : Nat} {s : mS} {d : Bool} (h : rd = false) (h2 : (bitM rd f n s d).1 = true) : d = true := by
  subst h; exact h2
theorem r_wid_rd (bit : mS → Bool → Bool × mS) {due : Nat → Bool} : ∀ (i w : Nat) (s : mS), (s.1 = 0 → w ≤ 24) → (r_wid bit true due i w s).1 = w ∨ (r_wid bit true due i w s).1 ≤ 25
  | 0, _, _, _ => Or.inl rfl
  | i + 1, w, s, h => by
    rw [r_wid]
    split
    · rename_i h0
      have h1 := h h0
      split
      · have h2 : (r_fw true (w + 1) (bit s (due w)).2).1 = 0 → w + 1 ≤ 24 := fun q => by
          unfold r_fw at q
          by_cases e : true = true ∧ 24 < w + 1
          · rw [if_pos e] at q; exact absurd q (by show ¬ 3 = 0; omega)
          · exact Nat.not_lt.mp (fun z => e ⟨rfl, z⟩)
        rcases r_wid_rd bit i (w + 1) _ h2 with q | q
        · right; rw [q]; omega
        · right; exact q
      · exact Or.inl rfl
    · exact Or.inl rfl
theorem r_wid_wr {f : Nat → Nat} {n d : Nat} (hd : d < 2 ^ 16) : ∀ (i w : Nat) (s : mS), (r_wid (bitM false f n) false (fun w => decide (0 < d / 2 ^ w)) i w s).1 = w ∨ (r_wid (bitM false f n) false (fun w => decide (0 < d / 2 ^ w)) i w s).1 ≤ 16
  | 0, _, _ => Or.inl rfl
  | i + 1, w, s => by
    rw [r_wid]
    split
    · split
      · rename_i h2
        have h3 : w < 16 := lt16 (of_decide_eq_true (r_bitW (s := s) (f := f) (n := n) rfl h2)) hd
        rcases r_wid_wr hd i (w + 1) (r_fw false (w + 1) (bitM false f n s (decide (0 < d / 2 ^ w))).2) with q | q
        · right; rw [q]; omega
        · right; exact q
      · exact Or.inl rfl
    · exact Or.inl rfl
theorem r_len_gr {rd : Bool} {f : Nat → Nat} {n d x b : Nat} {gr : Nat → Nat} {s : mS} (hd : d < 2 ^ 16) (hb9 : b < 1728) (hg : ∀ j, j < 1728 → gr j ≤ (if rd = true then 25 else 16)) : ∀ j, j < 1728 → (flM rd f n x d b gr s).2.1 j ≤ (if rd = true then 25 else 16) := by
  have hb := hg b hb9
  show ∀ j, j < 1728 → (r_len (bitM rd f n) rd (fun w => decide (0 < d / 2 ^ w)) (m_dv (nI d)) x gr b s).2.1 j ≤ _
  unfold r_len
  obtain ⟨W, eW⟩ : ∃ z, z = r_wid (bitM rd f n) rd (fun w => decide (0 < d / 2 ^ w)) (40 - (gr b + m_pow x)) (gr b + m_pow x) (r_fw rd (gr b + m_pow x) s) := ⟨_, rfl⟩
  rw [← eW]
  have hW : W.1 - m_pow x ≤ (if rd = true then 25 else 16) := by
    cases rd with
    | true =>
      have hb : gr b ≤ 25 := hb
      show W.1 - m_pow x ≤ 25
      have h2 : (r_fw true (gr b + m_pow x) s).1 = 0 → gr b + m_pow x ≤ 24 := fun q => by
        unfold r_fw at q
        by_cases e : true = true ∧ 24 < gr b + m_pow x
        · rw [if_pos e] at q; exact absurd q (by show ¬ 3 = 0; omega)
        · exact Nat.not_lt.mp (fun z => e ⟨rfl, z⟩)
      rcases r_wid_rd (bitM true f n) (due := fun w => decide (0 < d / 2 ^ w)) (40 - (gr b + m_pow x)) _ _ h2 with q | q
      · rw [← eW] at q; omega
      · rw [← eW] at q; omega
    | false =>
      have hb : gr b ≤ 16 := hb
      show W.1 - m_pow x ≤ 16
      rcases r_wid_wr (f := f) (n := n) hd (40 - (gr b + m_pow x)) (gr b + m_pow x) (r_fw false (gr b + m_pow x) s) with q | q
      · rw [← eW] at q; omega
      · rw [← eW] at q; omega
  intro j hj
  have hu : va_up gr b (W.1 - m_pow x) j ≤ (if rd = true then 25 else 16) := by
    unfold va_up
    split
    · exact hW
    · exact hg j hj
  unfold r_l2
  split
  · exact hu
  · exact hu
theorem gdM_b3 {rd : Bool} {f jps jln : Nat → Nat} {z i b : Nat} {Z : kS} (hb9 : b < 1728) (hf : ∀ j, f j < 256) (hl : ∀ j, jln j < 2 ^ 16) (h : gdM rd z Z) : gdM rd z (r_b3 rd f jps jln z i b Z) := by
  obtain ⟨h1, h2, h3, h4⟩ := h
  unfold r_b3
  obtain ⟨x, ex⟩ : ∃ q, q = r_n rd f z (jps i) Z.2.2.2.2.2.2.2 := ⟨_, rfl⟩
  rw [← ex]
  have hx : okM rd z x.2 := by
    rw [ex]; unfold r_n
    split
    · exact okM_pass hf h4
    · exact h4
  obtain ⟨y, ey⟩ : ∃ q, q = r_ln rd f z (jln i) b Z.1 x := ⟨_, rfl⟩
  rw [← ey]
  have hy : okM rd z y.2.2 ∧ ∀ j, j < 1728 → y.2.1 j ≤ (if rd = true then 25 else 16) := by
    rw [ey]; unfold r_ln
    split
    · exact ⟨okM_len hf hx, r_len_gr (hl i) hb9 h1⟩
    · exact ⟨hx, h1⟩
  exact ⟨hy.2, h2, h3, hy.1⟩
theorem gdM_blk {rd : Bool} {f jz jps jln : Nat → Nat} {z L base w h tr k y : Nat} {Z : kS} (hb9 : base + k < 1728) (hf : ∀ j, f j < 256) (hl : ∀ j, jln j < 2 ^ 16) (hy : y < 8) (hg : gdM rd z Z) : gdM rd z (r_blk rd f jz jps jln z L base w h tr k y Z) := by
  obtain ⟨h1, h2, h3, h4⟩ := hg
  unfold r_blk
  have hb := okM_bit hf h4 (decide (0 < jps (8 * (base + k) + y)))
  split
  · split
    · exact gdM_b3 hb9 hf hl ⟨h1, h2, h3, hb⟩
    · exact ⟨h1, h2, h3, hb⟩
  · have hT : okM rd z (r_T false rd f jz jps z L base w h tr k (y + 1) Z.2.1 Z.2.2.1 Z.2.2.2.2.2.2.2).2.2.2 := okM_rows hf (fun q => by simp at q) _ _ h4
    have hL := (r_rows_lo (bitM rd f z) (z3 := false && rd) (vl := r_vl rd false jz jps L base w h k) (q := r_qq tr w h k) (en := y + 1) (B := 2 ^ 20) (by omega) (m_lev w h + 1) (0, Z.2.1, Z.2.2.1, Z.2.2.2.2.2.2.2) (by show 0 < _; omega) h2).2
    split
    · refine gdM_b3 hb9 hf hl ⟨h1, ?_, ?_, ?_⟩
      · exact (r_rows_lo (bitM rd f z) (z3 := true && rd) (vl := r_vl rd true jz jps L base w h k) (q := r_qq (tr + 2448) w h k) (en := 1000) (B := 2 ^ 20) (by omega) (m_lev w h + 1) (0, (r_T false rd f jz jps z L base w h tr k (y + 1) Z.2.1 Z.2.2.1 Z.2.2.2.2.2.2.2).2.1, (r_T false rd f jz jps z L base w h tr k (y + 1) Z.2.1 Z.2.2.1 Z.2.2.2.2.2.2.2).2.2.1, (r_T false rd f jz jps z L base w h tr k (y + 1) Z.2.1 Z.2.2.1 Z.2.2.2.2.2.2.2).2.2.2) (by show 0 < _; omega) hL).2
      · intro j q hq
        have hq : va_up Z.2.2.2.2.1 (base + k) (if rd = true then some y else Z.2.2.2.2.1 (base + k)) j = some q := hq
        unfold va_up at hq
        split at hq
        · split at hq
          · cases hq; omega
          · exact h3 _ _ hq
        · exact h3 _ _ hq
      · exact okM_rows hf (fun q => by simpa using q) _ _ hT
    · exact ⟨h1, hL, h3, hT⟩
/-! a head of the reference, and all of them -/
def r_any (jps : Nat → Nat) (y fr : Nat) : Nat → Bool
  | 0 => false
  | i + 1 => r_any jps y fr i || decide (0 < jps (8 * (fr + i) + y))
def r_go (step : Nat → kS → kS) : Nat → Nat → kS → kS
  | 0, _, Y => Y
  | m + 1, j, Y => if Y.2.2.2.2.2.2.2.1 = 0 then r_go step m (j + 1) (step j Y) else Y
theorem r_go_stop {step : Nat → kS → kS} {m j : Nat} {Y : kS} (h : m = 0 ∨ ¬ Y.2.2.2.2.2.2.2.1 = 0) : r_go step m j Y = Y := by
  cases m with
  | zero => rfl
  | succ m => rw [r_go, if_neg (by omega)]
theorem r_go_s {step : Nat → kS → kS} {n j : Nat} {Y : kS} (hj : j < n) (h : Y.2.2.2.2.2.2.2.1 = 0) : r_go step (n - j) j Y = r_go step (n - (j + 1)) (j + 1) (step j Y) := by
  rw [show n - j = (n - (j + 1)) + 1 by omega, r_go, if_pos h]
theorem r_go_gd {rd : Bool} {z N : Nat} {step : Nat → kS → kS} (hs : ∀ j Y, j < N → gdM rd z Y → gdM rd z (step j Y)) : ∀ (m j : Nat) (Y : kS), j + m ≤ N → gdM rd z Y → gdM rd z (r_go step m j Y)
  | 0, _, _, _, h => h
  | m + 1, j, Y, hj, h => by
    rw [r_go]
    split
    · exact r_go_gd hs m _ _ (by omega) (hs _ _ (by omega) h)
    · exact h
def r_st (rd : Bool) (f jz jps jln : Nat → Nat) (z L w h fr g p y : Nat) (j : Nat) (Y : kS) : kS := r_blk rd f jz jps jln z L (fr + j / (w * h) * (w * h)) w h (17 * ((4 * g + p) * 3 + j / (w * h))) (j % (w * h)) y Y
def r_fz (rd : Bool) (f : Nat → Nat) (z : Nat) (Z : kS) : kS := r_s (r_fin rd f z Z.2.2.2.2.2.2.2) Z
/-- behind the first bit x -/
def r_h2 (rd : Bool) (f jz jps jln : Nat → Nat) (z L w h fr g p y : Nat) (x : Bool × mS) (Z : kS) : kS :=
  r_fz rd f z (if x.1 = true then r_go (r_st rd f jz jps jln z L w h fr g p y) (m_bnd g * (w * h)) 0 (r_s x.2 Z) else r_s x.2 Z)
def r_fr (w h g p : Nat) : Nat := 144 * g + p * m_bnd g * (w * h)
def r_hd (rd : Bool) (f jz jps jln : Nat → Nat) (z L w h g p y : Nat) (Z : kS) : kS :=
  r_h2 rd f jz jps jln z L w h (r_fr w h g p) g p y (bitM rd f z (r_beg rd Z.2.2.2.2.2.2.2) (r_any jps y (r_fr w h g p) (m_bnd g * (w * h)))) Z
/-- what holds between the heads -/
def gdE (rd : Bool) (n : Nat) (Z : kS) : Prop := (∀ j, j < 1728 → Z.1 j ≤ (if rd = true then 25 else 16)) ∧ (∀ j, Z.2.1 j < 2 ^ 20) ∧ (∀ j k, Z.2.2.2.2.1 j = some k → k < 8) ∧ okE n Z.2.2.2.2.2.2.2 ∧ (rd = false → Z.2.2.2.2.2.2.2.1 = 0)
theorem gdE_s {rd : Bool} {f : Nat → Nat} {z : Nat} {Z : kS} (hf : ∀ j, f j < 256) (h : gdM rd z Z) : gdE rd z (r_fz rd f z Z) := ⟨h.1, h.2.1, h.2.2.1, okE_fin hf h.2.2.2, fun q => by subst q; exact r_fin_fl (f := f) (n := z) (s := Z.2.2.2.2.2.2.2) (h.2.2.2.2.2.2.2.2.2.2 rfl)⟩
theorem r_fr_lt {w h g p j : Nat} (hg9 : g < 12) (hp : p ≤ 3) (hn : w * h ≤ 12) (hj : j < m_bnd g * (w * h)) : r_fr w h g p + j / (w * h) * (w * h) + j % (w * h) < 1728 := by
  have h1 : j / (w * h) * (w * h) + j % (w * h) = j := Nat.div_add_mod' j (w * h)
  have hb : m_bnd g ≤ 3 := by unfold m_bnd; split <;> omega
  have h2 : m_bnd g * (w * h) ≤ 3 * 12 := Nat.mul_le_mul hb hn
  have h3 : p * (m_bnd g * (w * h)) ≤ 3 * (3 * 12) := Nat.mul_le_mul hp h2
  unfold r_fr
  rw [Nat.mul_assoc]
  omega
theorem gdE_hd {rd : Bool} {f jz jps jln : Nat → Nat} {z L w h g p y : Nat} {Z : kS} (hg9 : g < 12) (hp : p ≤ 3) (hn : w * h ≤ 12) (hf : ∀ j, f j < 256) (hl : ∀ j, jln j < 2 ^ 16) (hy : y < 8) (hg : gdE rd z Z) : gdE rd z (r_hd rd f jz jps jln z L w h g p y Z) := by
  have hb := okM_bit hf (okM_beg hg.2.2.2.1 hg.2.2.2.2) (r_any jps y (r_fr w h g p) (m_bnd g * (w * h)))
  unfold r_hd r_h2
  refine gdE_s hf ?_
  split
  · exact r_go_gd (N := m_bnd g * (w * h)) (fun j Y hj hY => gdM_blk (r_fr_lt hg9 hp hn hj) hf hl hy hY) _ _ _ (by omega) ⟨hg.1, hg.2.1, hg.2.2.1, hb⟩
  · exact ⟨hg.1, hg.2.1, hg.2.2.1, hb⟩
/-- the packet k of the list -/
def r_pk (rd : Bool) (f jz jps jln jw jh jro : Nat → Nat) (z L k : Nat) (Z : kS) : kS := r_hd rd f jz jps jln z L (jw (4 * jro (4 * k + 2) + jro (4 * k + 1))) (jh (4 * jro (4 * k + 2) + jro (4 * k + 1))) (4 * jro (4 * k + 2) + jro (4 * k + 1)) (jro (4 * k + 3)) (jro (4 * k)) Z
def r_it (hd : Nat → kS → kS) : Nat → kS → kS
  | 0, Z => Z
  | k + 1, Z => hd k (r_it hd k Z)
def r_da (hd : Nat → kS → kS) (Z : kS) (da : Nat → Nat) : Nat → Nat → Nat
  | 0 => da
  | k + 1 => va_up (r_da hd Z da k) k (r_it hd k Z).2.2.2.2.2.2.2.2.2.2.2.2.1
theorem r_lt4 {rd : Bool} {n : Nat} {Z : kS} (h : gdE rd n Z) : Z.2.2.2.2.2.2.2.1 < 4 := h.2.2.2.1.2.1
def m_cp (g f : Nat → Nat) : Nat → Nat → Nat
  | 0 => f
  | n + 1 => va_up (m_cp g f n) n (g n)
theorem m_cp_lt {g f : Nat → Nat} {B : Nat} (hg : ∀ j, g j < B) (hf : ∀ j, f j < B) : ∀ n j, m_cp g f n j < B
  | 0, j => hf j
  | n + 1, j => m_up_lt (m_cp_lt hg hf n) (hg n) j
theorem gdE_pk {rd : Bool} {f jz jps jln jw jh jro : Nat → Nat} {z L k : Nat} {Z : kS} (hg9 : 4 * jro (4 * k + 2) + jro (4 * k + 1) < 12) (hp : jro (4 * k + 3) ≤ 3) (hn : jw (4 * jro (4 * k + 2) + jro (4 * k + 1)) * jh (4 * jro (4 * k + 2) + jro (4 * k + 1)) ≤ 12) (hf : ∀ j, f j < 256) (hl : ∀ j, jln j < 2 ^ 16) (hy : jro (4 * k) < 8) (hg : gdE rd z Z) : gdE rd z (r_pk rd f jz jps jln jw jh jro z L k Z) := gdE_hd hg9 hp hn hf hl hy hg
theorem gdE_0 {rd : Bool} {n mle mno mla : Nat} {jgr jlo jrz jrp jrl jdr : Nat → Nat} {jdo : Nat → Bool} {jrf : Nat → Option Nat} (hlo : ∀ j, jlo j < 2 ^ 20) (hrf : ∀ j k, jrf j = some k → k < 8) (hdr : ∀ j, jdr j < 256) : gdE rd n ((m_fill 3 1728 jgr, m_fill 0 4896 jlo, m_fill false 4896 jdo, jrz, jrf, jrp, jrl, 0, 0, mle, mno, mla, 0, jdr) : kS) := by
  refine ⟨fun j hj => ?_, m_fill_lt (by omega) hlo, hrf, ⟨Nat.zero_le _, by show 0 < 4; omega, Nat.zero_le _, hdr⟩, fun _ => rfl⟩
  show m_fill 3 1728 jgr j ≤ _
  unfold m_fill
  rw [if_pos hj]
  split <;> omega
theorem m_put_n8 {f : Nat → Option Nat} {a n : Nat} (h : ∀ j k, f j = some k → k < 8) : ∀ j k, m_put (fun _ => none) a n f j = some k → k < 8 := by
  intro j k q
  unfold m_put at q
  split at q
  · cases q
  · exact h j k q

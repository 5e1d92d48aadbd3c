/-! the class's list of packets and the reference's are the same -/
theorem q_dv9 {a r n : Nat} (hr : r < n) : (a * n + r) / n = a := by
  rw [Nat.mul_comm, Nat.mul_add_div (by omega), Nat.div_eq_of_lt hr, Nat.add_zero]
theorem q_md9 {a r n : Nat} (hr : r < n) : (a * n + r) % n = r := by
  rw [Nat.mul_comm, Nat.mul_add_mod, Nat.mod_eq_of_lt hr]
theorem q_divm {a r a' r' n : Nat} (h : a * n + r = a' * n + r') (h1 : r < n) (h2 : r' < n) : a = a' ∧ r = r' := by
  have e1 := q_dv9 (a := a) h1
  have e2 := q_dv9 (a := a') h2
  have e3 := q_md9 (a := a) h1
  have e4 := q_md9 (a := a') h2
  rw [h] at e1 e3
  exact ⟨e1.symm.trans e2, e3.symm.trans e4⟩
def qT (L Rz C : Nat) (t : Nat → Nat) : Prop := t 0 < L ∧ t 1 < Rz ∧ t 2 < C ∧ t 3 < 4
theorem lp_mark_inj {L Rz C : Nat} {t v : Nat → Nat} (ht : qT L Rz C t) (hv : qT L Rz C v) (h : lp_mark L Rz t = lp_mark L Rz v) : t 0 = v 0 ∧ t 1 = v 1 ∧ t 2 = v 2 ∧ t 3 = v 3 := by
  unfold lp_mark at h
  obtain ⟨h1, h2⟩ := q_divm h ht.2.2.2 hv.2.2.2
  obtain ⟨h3, h4⟩ := q_divm h1 ht.1 hv.1
  obtain ⟨h5, h6⟩ := q_divm h3 ht.2.1 hv.2.1
  exact ⟨h4, h6, h5, h2⟩
theorem cn_key_inj {L Rz C : Nat} {t v : Nat → Nat} (hR : Rz ≤ 4) (hC : C ≤ 3) (ht : qT L Rz C t) (hv : qT L Rz C v) (h : cn_key t = cn_key v) : t 0 = v 0 ∧ t 1 = v 1 ∧ t 2 = v 2 ∧ t 3 = v 3 := by
  unfold cn_key at h
  obtain ⟨h1, h2⟩ := q_divm h ht.2.2.2 hv.2.2.2
  obtain ⟨h3, h4⟩ := q_divm h1 (Nat.lt_of_lt_of_le ht.2.2.1 hC) (Nat.lt_of_lt_of_le hv.2.2.1 hC)
  obtain ⟨h5, h6⟩ := q_divm h3 (Nat.lt_of_lt_of_le ht.2.1 hR) (Nat.lt_of_lt_of_le hv.2.1 hR)
  exact ⟨h5, h6, h4, h2⟩
theorem cn_put_lt9 {fp fa : Nat → Nat} {k j : Nat} (h : j < 4 * k) : ∀ n, cn_put fp k fa n j = fp j
  | 0 => rfl
  | n + 1 => by rw [cn_put, va_up_ne _ _ (by omega), cn_put_lt9 h n]
theorem cn_put_at9 {fp fa : Nat → Nat} {k j : Nat} : ∀ n, j < n → cn_put fp k fa n (4 * k + j) = fa j
  | 0, h => absurd h (Nat.not_lt_zero _)
  | n + 1, h => by
    rw [cn_put]
    by_cases e : j = n
    · subst e; rw [va_up_self]
    · rw [va_up_ne _ _ (by omega), cn_put_at9 n (by omega)]
/-- the same packets at the same places, the same marks -/
def qR (L Rz C : Nat) (X Y : lS) : Prop := X.2.1 = Y.2.1 ∧ (∀ k, k < Y.2.1 → ∀ j, j < 4 → X.2.2.1 (k * 4 + j) = Y.2.2.1 (4 * k + j)) ∧ (∀ t : Nat → Nat, qT L Rz C t → X.2.2.2 (lp_mark L Rz t) = Y.2.2.2 (cn_key t))
theorem qR_step {pr jp : Nat → Nat} {L Rz C : Nat} {X Y : lS} {t : Nat → Nat} (hR : Rz ≤ 4) (hC : C ≤ 3) (hpj : ∀ a k, a < C → k < Rz → pr (a * Rz + k) = jp (4 * a + k)) (h : qR L Rz C X Y) (hx : ∀ j, j < 4 → X.1 j = t j) (ht : qT L Rz C t) : qR L Rz C (lp_one pr L Rz X) (cn_fin jp t Y) := by
  have e0 := hx 0 (by omega)
  have e1 := hx 1 (by omega)
  have e2 := hx 2 (by omega)
  have e3 := hx 3 (by omega)
  have em : lp_mark L Rz X.1 = lp_mark L Rz t := by unfold lp_mark; rw [e0, e1, e2, e3]
  have es : pr (lp_slot Rz X.1) = jp (4 * t 2 + t 1) := by unfold lp_slot; rw [e1, e2]; exact hpj _ _ ht.2.2.1 ht.2.1
  obtain ⟨h1, h2, h3⟩ := h
  have hk := h3 t ht
  unfold lp_one cn_fin
  rw [em, es, e3, hk]
  by_cases e : t 3 < jp (4 * t 2 + t 1) ∧ Y.2.2.2 (cn_key t) = false
  · have ne : ¬ (jp (4 * t 2 + t 1) ≤ t 3 ∨ Y.2.2.2 (cn_key t) = true) := by
      rintro (q | q)
      · exact absurd e.1 (Nat.not_lt.mpr q)
      · rw [e.2] at q; cases q
    rw [if_pos e, if_neg ne]
    refine ⟨?_, fun k hk j hj => ?_, fun v hv => ?_⟩
    · show X.2.1 + 1 = Y.2.1 + 1
      rw [h1]
    · show lp_put X.2.2.1 X.2.1 X.1 4 (k * 4 + j) = cn_put Y.2.2.1 Y.2.1 t 4 (4 * k + j)
      have hk : k < Y.2.1 + 1 := hk
      rw [h1]
      by_cases q : k = Y.2.1
      · rw [q, lp_put_at 4 hj, cn_put_at9 4 hj]; exact hx j hj
      · rw [lp_put_lt (by omega), cn_put_lt9 (by omega)]; exact h2 k (by omega) j hj
    · show va_up X.2.2.2 (lp_mark L Rz t) true (lp_mark L Rz v) = va_up Y.2.2.2 (cn_key t) true (cn_key v)
      by_cases q : lp_mark L Rz v = lp_mark L Rz t
      · obtain ⟨a0, a1, a2, a3⟩ := lp_mark_inj hv ht q
        have q2 : cn_key v = cn_key t := by unfold cn_key; rw [a0, a1, a2, a3]
        rw [q, q2, va_up_self, va_up_self]
      · have q2 : cn_key v ≠ cn_key t := fun z => q (by
          obtain ⟨a0, a1, a2, a3⟩ := cn_key_inj hR hC hv ht z
          unfold lp_mark; rw [a0, a1, a2, a3])
        rw [va_up_ne _ _ q, va_up_ne _ _ q2]; exact h3 v hv
  · have po : jp (4 * t 2 + t 1) ≤ t 3 ∨ Y.2.2.2 (cn_key t) = true := by
      by_cases q : jp (4 * t 2 + t 1) ≤ t 3
      · exact Or.inl q
      · refine Or.inr ?_
        cases z : Y.2.2.2 (cn_key t) with
        | true => rfl
        | false => exact absurd ⟨Nat.not_le.mp q, z⟩ e
    rw [if_neg e, if_pos po]
    exact ⟨h1, h2, h3⟩
theorem lp_one_1 {pr : Nat → Nat} {L Rz : Nat} (X : lS) : (lp_one pr L Rz X).1 = X.1 := by unfold lp_one; split <;> rfl
theorem lp_it_ind {body : lS → lS} {ax N : Nat} (P : Nat → lS → Prop) (hs : ∀ i Y, i < N → P i Y → P (i + 1) (lp_inc ax (body Y))) : ∀ n i X, i + n ≤ N → P i X → P (i + n) (lp_it body ax n X)
  | 0, _, _, _, h => h
  | n + 1, i, X, hn, h => by
    have h9 := lp_it_ind P hs n (i + 1) _ (by omega) (hs i X (by omega) h)
    rw [show i + (n + 1) = i + 1 + n by omega]; exact h9
theorem lp_for_ind {fn : Nat → Nat} {body : lS → lS} {ax : Nat} {X : lS} (P : Nat → lS → Prop) (h0 : P 0 (lp_set ax X)) (hs : ∀ i Y, i < fn ax → P i Y → P (i + 1) (lp_inc ax (body Y))) : P (fn ax) (lp_for fn body ax X) := by
  have h9 := lp_it_ind (N := fn ax) P hs (fn ax) 0 (lp_set ax X) (by omega) h0
  rw [Nat.zero_add] at h9; exact h9
theorem cn_dec_at {E : Nat → Nat} {q : Nat} (hq : q < 5) {t : Nat → Nat} {i0 i1 i2 i3 : Nat} (h0 : i0 < E (m_ord (q * 4))) (h1 : i1 < E (m_ord (q * 4 + 1))) (h2 : i2 < E (m_ord (q * 4 + 2))) (h3 : i3 < E (m_ord (q * 4 + 3))) :
    (cn_dec E q 4 (t, ((i0 * E (m_ord (q * 4 + 1)) + i1) * E (m_ord (q * 4 + 2)) + i2) * E (m_ord (q * 4 + 3)) + i3)).1 (m_ord (q * 4)) = i0 ∧ (cn_dec E q 4 (t, ((i0 * E (m_ord (q * 4 + 1)) + i1) * E (m_ord (q * 4 + 2)) + i2) * E (m_ord (q * 4 + 3)) + i3)).1 (m_ord (q * 4 + 1)) = i1 ∧ (cn_dec E q 4 (t, ((i0 * E (m_ord (q * 4 + 1)) + i1) * E (m_ord (q * 4 + 2)) + i2) * E (m_ord (q * 4 + 3)) + i3)).1 (m_ord (q * 4 + 2)) = i2 ∧ (cn_dec E q 4 (t, ((i0 * E (m_ord (q * 4 + 1)) + i1) * E (m_ord (q * 4 + 2)) + i2) * E (m_ord (q * 4 + 3)) + i3)).1 (m_ord (q * 4 + 3)) = i3 := by
  obtain ⟨-, ⟨n01, n02, n03, n12, n13, n23⟩, -⟩ := m_perm q hq
  simp only [cn_dec, Nat.add_zero, q_md9 h3, q_dv9 h3, q_md9 h2, q_dv9 h2, q_md9 h1, q_dv9 h1, Nat.mod_eq_of_lt h0]
  refine ⟨?_, ?_, ?_, ?_⟩
  · rw [va_up_self]
  · rw [va_up_ne _ _ (Ne.symm n01), va_up_self]
  · rw [va_up_ne _ _ (Ne.symm n02), va_up_ne _ _ (Ne.symm n12), va_up_self]
  · rw [va_up_ne _ _ (Ne.symm n03), va_up_ne _ _ (Ne.symm n13), va_up_ne _ _ (Ne.symm n23), va_up_self]
theorem qR_go {pr jp fn E : Nat → Nat} {L Rz C q : Nat} (hq : q < 5) (hR : Rz ≤ 4) (hC : C ≤ 3) (hpj : ∀ a k, a < C → k < Rz → pr (a * Rz + k) = jp (4 * a + k)) (hfn : ∀ j, j < 4 → fn j = E j) (hE : E 0 ≤ L ∧ E 1 ≤ Rz ∧ E 2 ≤ C ∧ E 3 ≤ 4) (hE1 : ∀ j, j < 4 → 1 ≤ E j) {X Y : lS} (h : qR L Rz C X Y) :
    qR L Rz C (lp_go fn pr L Rz (m_ord (q * 4)) (m_ord (q * 4 + 1)) (m_ord (q * 4 + 2)) (m_ord (q * 4 + 3)) X) (cn_it jp E q (E (m_ord (q * 4)) * E (m_ord (q * 4 + 1)) * E (m_ord (q * 4 + 2)) * E (m_ord (q * 4 + 3))) Y) := by
  obtain ⟨⟨l0, l1, l2, l3⟩, ⟨n01, n02, n03, n12, n13, n23⟩, hcov⟩ := m_perm q hq
  have hat := fun (t : Nat → Nat) (i0 i1 i2 i3 : Nat) => cn_dec_at (E := E) hq (t := t) (i0 := i0) (i1 := i1) (i2 := i2) (i3 := i3)
  generalize ea : m_ord (q * 4) = a at *
  generalize eb : m_ord (q * 4 + 1) = k at *
  generalize ec : m_ord (q * 4 + 2) = r at *
  generalize ed : m_ord (q * 4 + 3) = d at *
  have hd : ∀ ia ib ic (Z : lS), ia < E a → ib < E k → ic < E r → Z.1 a = ia → Z.1 k = ib → Z.1 r = ic → qR L Rz C Z (cn_it jp E q (((ia * E k + ib) * E r + ic) * E d) Y) → (lpC fn pr L Rz d Z).1 a = ia ∧ (lpC fn pr L Rz d Z).1 k = ib ∧ (lpC fn pr L Rz d Z).1 r = ic ∧ qR L Rz C (lpC fn pr L Rz d Z) (cn_it jp E q (((ia * E k + ib) * E r + ic + 1) * E d) Y) := by
    intro ia ib ic Z ha hk hr z1 z2 z3 hz
    have h9 := lp_for_ind (fn := fn) (body := lp_one pr L Rz) (ax := d) (X := Z) (fun i w => w.1 a = ia ∧ w.1 k = ib ∧ w.1 r = ic ∧ w.1 d = i ∧ qR L Rz C w (cn_it jp E q (((ia * E k + ib) * E r + ic) * E d + i) Y))
      ⟨by show va_up Z.1 d 0 a = ia; rw [va_up_ne _ _ n03]; exact z1, by show va_up Z.1 d 0 k = ib; rw [va_up_ne _ _ n13]; exact z2, by show va_up Z.1 d 0 r = ic; rw [va_up_ne _ _ n23]; exact z3, by show va_up Z.1 d 0 d = 0; rw [va_up_self], hz⟩
      (fun i w hi hw => by
        obtain ⟨w1, w2, w3, w4, w5⟩ := hw
        rw [hfn d l3] at hi
        have hp := lp_one_1 (pr := pr) (L := L) (Rz := Rz) w
        refine ⟨?_, ?_, ?_, ?_, ?_⟩
        · show va_up (lp_one pr L Rz w).1 d _ a = ia; rw [va_up_ne _ _ n03, hp]; exact w1
        · show va_up (lp_one pr L Rz w).1 d _ k = ib; rw [va_up_ne _ _ n13, hp]; exact w2
        · show va_up (lp_one pr L Rz w).1 d _ r = ic; rw [va_up_ne _ _ n23, hp]; exact w3
        · show va_up (lp_one pr L Rz w).1 d ((lp_one pr L Rz w).1 d + 1) d = i + 1; rw [va_up_self, hp, w4]
        · obtain ⟨t0, t1, t2, t3⟩ := hat (cn_it jp E q (((ia * E k + ib) * E r + ic) * E d + i) Y).1 ia ib ic i ha hk hr hi
          have hlt := cn_dec_lt (E := E) hq hE1 (t := (cn_it jp E q (((ia * E k + ib) * E r + ic) * E d + i) Y).1) (r := ((ia * E k + ib) * E r + ic) * E d + i)
          have hst := qR_step (jp := jp) hR hC hpj w5 (t := (cn_dec E q 4 ((cn_it jp E q (((ia * E k + ib) * E r + ic) * E d + i) Y).1, ((ia * E k + ib) * E r + ic) * E d + i)).1) (fun j hj => by
            rcases hcov j hj with e | e | e | e
            · rw [e, t0]; exact w1
            · rw [e, t1]; exact w2
            · rw [e, t2]; exact w3
            · rw [e, t3]; exact w4) ⟨Nat.lt_of_lt_of_le (hlt 0 (by omega)) hE.1, Nat.lt_of_lt_of_le (hlt 1 (by omega)) hE.2.1, Nat.lt_of_lt_of_le (hlt 2 (by omega)) hE.2.2.1, Nat.lt_of_lt_of_le (hlt 3 (by omega)) hE.2.2.2⟩
          exact hst)
    obtain ⟨y1, y2, y3, -, y5⟩ := h9
    refine ⟨y1, y2, y3, ?_⟩
    rw [hfn d l3, ← Nat.succ_mul] at y5
    exact y5
  have hc : ∀ ia ib (Z : lS), ia < E a → ib < E k → Z.1 a = ia → Z.1 k = ib → qR L Rz C Z (cn_it jp E q ((ia * E k + ib) * E r * E d) Y) → (lpB fn pr L Rz r d Z).1 a = ia ∧ (lpB fn pr L Rz r d Z).1 k = ib ∧ qR L Rz C (lpB fn pr L Rz r d Z) (cn_it jp E q ((ia * E k + ib + 1) * E r * E d) Y) := by
    intro ia ib Z ha hk z1 z2 hz
    have h9 := lp_for_ind (fn := fn) (body := lpC fn pr L Rz d) (ax := r) (X := Z) (fun i w => w.1 a = ia ∧ w.1 k = ib ∧ w.1 r = i ∧ qR L Rz C w (cn_it jp E q (((ia * E k + ib) * E r + i) * E d) Y))
      ⟨by show va_up Z.1 r 0 a = ia; rw [va_up_ne _ _ n02]; exact z1, by show va_up Z.1 r 0 k = ib; rw [va_up_ne _ _ n12]; exact z2, by show va_up Z.1 r 0 r = 0; rw [va_up_self], hz⟩
      (fun i w hi hw => by
        obtain ⟨w1, w2, w3, w5⟩ := hw
        rw [hfn r l2] at hi
        obtain ⟨y1, y2, y3, y4⟩ := hd ia ib i w ha hk hi w1 w2 w3 w5
        refine ⟨?_, ?_, ?_, y4⟩
        · show va_up (lpC fn pr L Rz d w).1 r _ a = ia; rw [va_up_ne _ _ n02]; exact y1
        · show va_up (lpC fn pr L Rz d w).1 r _ k = ib; rw [va_up_ne _ _ n12]; exact y2
        · show va_up (lpC fn pr L Rz d w).1 r ((lpC fn pr L Rz d w).1 r + 1) r = i + 1; rw [va_up_self, y3])
    obtain ⟨y1, y2, -, y5⟩ := h9
    refine ⟨y1, y2, ?_⟩
    rw [hfn r l2, ← Nat.succ_mul] at y5
    exact y5
  have hb9 : ∀ ia (Z : lS), ia < E a → Z.1 a = ia → qR L Rz C Z (cn_it jp E q (ia * E k * E r * E d) Y) → (lpA fn pr L Rz k r d Z).1 a = ia ∧ qR L Rz C (lpA fn pr L Rz k r d Z) (cn_it jp E q ((ia + 1) * E k * E r * E d) Y) := by
    intro ia Z ha z1 hz
    have h9 := lp_for_ind (fn := fn) (body := lpB fn pr L Rz r d) (ax := k) (X := Z) (fun i w => w.1 a = ia ∧ w.1 k = i ∧ qR L Rz C w (cn_it jp E q ((ia * E k + i) * E r * E d) Y))
      ⟨by show va_up Z.1 k 0 a = ia; rw [va_up_ne _ _ n01]; exact z1, by show va_up Z.1 k 0 k = 0; rw [va_up_self], hz⟩
      (fun i w hi hw => by
        obtain ⟨w1, w2, w5⟩ := hw
        rw [hfn k l1] at hi
        obtain ⟨y1, y2, y4⟩ := hc ia i w ha hi w1 w2 w5
        refine ⟨?_, ?_, y4⟩
        · show va_up (lpB fn pr L Rz r d w).1 k _ a = ia; rw [va_up_ne _ _ n01]; exact y1
        · show va_up (lpB fn pr L Rz r d w).1 k ((lpB fn pr L Rz r d w).1 k + 1) k = i + 1; rw [va_up_self, y2])
    obtain ⟨y1, -, y5⟩ := h9
    refine ⟨y1, ?_⟩
    rw [hfn k l1, ← Nat.succ_mul] at y5
    exact y5
  have h9 := lp_for_ind (fn := fn) (body := lpA fn pr L Rz k r d) (ax := a) (X := X) (fun i w => w.1 a = i ∧ qR L Rz C w (cn_it jp E q (i * E k * E r * E d) Y))
    ⟨by show va_up X.1 a 0 a = 0; rw [va_up_self], by rw [Nat.zero_mul, Nat.zero_mul, Nat.zero_mul]; exact h⟩
    (fun i w hi hw => by
      obtain ⟨w1, w5⟩ := hw
      rw [hfn a l0] at hi
      obtain ⟨y1, y4⟩ := hb9 i w hi w1 w5
      refine ⟨?_, y4⟩
      show va_up (lpA fn pr L Rz k r d w).1 a ((lpA fn pr L Rz k r d w).1 a + 1) a = i + 1; rw [va_up_self, y1])
  rw [hfn a l0] at h9
  exact h9.2
theorem ord_mul {E : Nat → Nat} {q : Nat} (hq : q < 5) (h3 : E 3 = 4) : E (m_ord (q * 4)) * E (m_ord (q * 4 + 1)) * E (m_ord (q * 4 + 2)) * E (m_ord (q * 4 + 3)) = E 0 * E 1 * E 2 * 4 := by
  rcases (show q = 0 ∨ q = 1 ∨ q = 2 ∨ q = 3 ∨ q = 4 by omega) with e | e | e | e | e <;> subst e
  · show E 0 * E 1 * E 2 * E 3 = _; rw [h3]
  · show E 1 * E 0 * E 2 * E 3 = _; rw [h3, Nat.mul_comm (E 1)]
  · show E 1 * E 3 * E 2 * E 0 = _; rw [h3]; simp only [Nat.mul_comm, Nat.mul_left_comm, Nat.mul_assoc]
  · show E 3 * E 2 * E 1 * E 0 = _; rw [h3]; simp only [Nat.mul_comm, Nat.mul_left_comm, Nat.mul_assoc]
  · show E 2 * E 3 * E 1 * E 0 = _; rw [h3]; simp only [Nat.mul_comm, Nat.mul_left_comm, Nat.mul_assoc]
theorem qR_run {pr jp : Nat → Nat} {L Rz C q y z k : Nat} (hq : q < 5) (hL : 1 ≤ L) (hR : 1 ≤ Rz ∧ Rz ≤ 4) (hC : 1 ≤ C ∧ C ≤ 3) (hy : 1 ≤ y ∧ 1 ≤ z ∧ 1 ≤ k) (hpj : ∀ a k, a < C → k < Rz → pr (a * Rz + k) = jp (4 * a + k)) {S S' : (Nat → Nat) × lS} (h : qR L Rz C S.2 S'.2) :
    qR L Rz C (lp_run pr L Rz C S (q * 4) y z k).2 (co_run jp L Rz C S' q y z k).2 := by
  obtain ⟨a0, a1, a2, a3⟩ := m_ends_eq S.1 y z k L Rz C
  obtain ⟨c0, c1, c2, c3⟩ := m_ends_eq S'.1 y z k L Rz C
  have h9 := qR_go (E := m_ends S'.1 y z k L Rz C) (fn := m_ends S.1 y z k L Rz C) hq hR.2 hC.2 hpj (fun j hj => by
    rcases (show j = 0 ∨ j = 1 ∨ j = 2 ∨ j = 3 by omega) with e | e | e | e <;> subst e
    · rw [a0, c0]
    · rw [a1, c1]
    · rw [a2, c2]
    · rw [a3, c3]) (m_ends_le S'.1 y z k L Rz C) (fun j hj => by
    rcases (show j = 0 ∨ j = 1 ∨ j = 2 ∨ j = 3 by omega) with e | e | e | e <;> subst e
    · rw [c0]; omega
    · rw [c1]; omega
    · rw [c2]; omega
    · rw [c3]; omega) h
  rw [ord_mul hq c3] at h9
  exact h9
theorem qR_start {L Rz C : Nat} (hR : Rz ≤ 4) (hC : C ≤ 3) (hL : L ≤ 8) {X Y : lS} : qR L Rz C (lp_start (L * Rz * 3 * 4) X) (co_start Y) := by
  refine ⟨rfl, fun k hk => absurd hk (Nat.not_lt_zero _), fun t ht => ?_⟩
  have h1 : lp_mark L Rz t < L * Rz * 3 * 4 := m_mark ht.1 ht.2.1 (Nat.lt_of_lt_of_le ht.2.2.1 hC) ht.2.2.2 rfl
  have h2 : cn_key t < 384 := by
    obtain ⟨t0, t1, t2, t3⟩ := ht
    unfold cn_key; omega
  show m_fill false _ X.2.2.2 _ = m_fill false 384 Y.2.2.2 _
  simp only [m_fill]
  rw [if_pos h1, if_pos h2]
theorem qR_prt {fo fe jpr pr jp : Nat → Nat} {L Rz C : Nat} (hL : 1 ≤ L) (hR : 1 ≤ Rz ∧ Rz ≤ 4) (hC : 1 ≤ C ∧ C ≤ 3) (hpj : ∀ a k, a < C → k < Rz → pr (a * Rz + k) = jp (4 * a + k)) {S S' : (Nat → Nat) × lS} (h : qR L Rz C S.2 S'.2) : ∀ n, (∀ i, i < n → fo i < 5 ∧ fo i = jpr (4 * i) ∧ fe (i * 3 + 0) = jpr (4 * i + 1) ∧ fe (i * 3 + 1) = jpr (4 * i + 2) ∧ fe (i * 3 + 2) = jpr (4 * i + 3) ∧ 1 ≤ jpr (4 * i + 1) ∧ 1 ≤ jpr (4 * i + 2) ∧ 1 ≤ jpr (4 * i + 3)) → qR L Rz C (lp_prt fo fe pr L Rz C S n).2 (co_prt jpr jp L Rz C S' n).2
  | 0, _ => h
  | n + 1, hn => by
    obtain ⟨h1, h2, h3, h4, h5, h6, h7, h8⟩ := hn n (by omega)
    show qR L Rz C (lp_run pr L Rz C (lp_prt fo fe pr L Rz C S n) (fo n * 4) (fe (n * 3 + 0)) (fe (n * 3 + 1)) (fe (n * 3 + 2))).2 (co_run jp L Rz C (co_prt jpr jp L Rz C S' n) (jpr (4 * n)) (jpr (4 * n + 1)) (jpr (4 * n + 2)) (jpr (4 * n + 3))).2
    rw [h3, h4, h5, ← h2]
    exact qR_run h1 hL hR hC ⟨h6, h7, h8⟩ hpj (qR_prt hL hR hC hpj h n (fun i hi => hn i (by omega)))
/-- the lists of both, out of the same parts, bounds and precincts -/
theorem qR_list {fo fe jpr pr jp fn jen : Nat → Nat} {L Rz C pts : Nat} (hL : 1 ≤ L ∧ L ≤ 8) (hR : 1 ≤ Rz ∧ Rz ≤ 4) (hC : 1 ≤ C ∧ C ≤ 3) (hpj : ∀ a k, a < C → k < Rz → pr (a * Rz + k) = jp (4 * a + k)) {X Y : lS} (hn : ∀ i, i < pts → fo i < 5 ∧ fo i = jpr (4 * i) ∧ fe (i * 3 + 0) = jpr (4 * i + 1) ∧ fe (i * 3 + 1) = jpr (4 * i + 2) ∧ fe (i * 3 + 2) = jpr (4 * i + 3) ∧ 1 ≤ jpr (4 * i + 1) ∧ 1 ≤ jpr (4 * i + 2) ∧ 1 ≤ jpr (4 * i + 3)) : qR L Rz C (lp_list fo fe pr L Rz C pts (L * Rz * 3 * 4) fn X).2 (co_list jpr jp L Rz C pts jen Y).2 := by
  unfold lp_list co_list lp_first
  by_cases e : pts = 0
  · subst e
    rw [if_pos rfl, if_pos rfl]
    exact qR_run (q := 0) (by omega) hL.1 hR hC ⟨by omega, by omega, by omega⟩ hpj (S := (fn, lp_start (L * Rz * 3 * 4) X)) (S' := (jen, co_start Y)) (qR_start hR.2 hC.2 hL.2)
  · rw [if_neg e, if_neg e]
    exact qR_prt hL.1 hR hC hpj (S := (fn, lp_start (L * Rz * 3 * 4) X)) (S' := (jen, co_start Y)) (qR_start hR.2 hC.2 hL.2) pts hn
theorem cn_it_mono {jp E : Nat → Nat} {q : Nat} (Y : lS) : ∀ n, (cn_it jp E q n Y).2.1 ≤ (cn_it jp E q (n + 1) Y).2.1 := by
  intro n
  show _ ≤ (cn_fin jp _ (cn_it jp E q n Y)).2.1
  unfold cn_fin
  split
  · exact Nat.le_succ _
  · exact Nat.le_refl _
theorem cn_it_pos {jp E : Nat → Nat} {q : Nat} (hq : q < 5) (hE1 : ∀ j, j < 4 → 1 ≤ E j) (h0 : 1 ≤ jp 0) {Y : lS} (hY : Y.2.2.2 0 = false) : ∀ n, 1 ≤ (cn_it jp E q (n + 1) Y).2.1 := by
  intro n
  induction n with
  | zero =>
    obtain ⟨⟨l0, l1, l2, l3⟩, -, hcov⟩ := m_perm q hq
    have hat := cn_dec_at (E := E) hq (t := Y.1) (i0 := 0) (i1 := 0) (i2 := 0) (i3 := 0) (hE1 _ l0) (hE1 _ l1) (hE1 _ l2) (hE1 _ l3)
    simp only [Nat.zero_mul, Nat.add_zero] at hat
    have hz : ∀ j, j < 4 → (cn_dec E q 4 (Y.1, 0)).1 j = 0 := fun j hj => by
      rcases hcov j hj with e | e | e | e
      · rw [e]; exact hat.1
      · rw [e]; exact hat.2.1
      · rw [e]; exact hat.2.2.1
      · rw [e]; exact hat.2.2.2
    show 1 ≤ (cn_fin jp (cn_dec E q 4 (Y.1, 0)).1 Y).2.1
    unfold cn_fin cn_key
    rw [hz 0 (by omega), hz 1 (by omega), hz 2 (by omega), hz 3 (by omega)]
    rw [if_pos ⟨h0, hY⟩]
    exact Nat.le_add_left _ _
  | succ n ih => exact Nat.le_trans ih (cn_it_mono Y (n + 1))

/-! the layers of a precinct come one after the other -/
def cntR (ro : Nat → Nat) (a b d : Nat) : Nat → Nat
  | 0 => 0
  | k + 1 => cntR ro a b d k + (if ro (4 * k + 1) = a ∧ ro (4 * k + 2) = b ∧ ro (4 * k + 3) = d then 1 else 0)
theorem cntR_eq {ro ro2 : Nat → Nat} {a b d : Nat} : ∀ k, (∀ j, j < 4 * k → ro j = ro2 j) → cntR ro a b d k = cntR ro2 a b d k
  | 0, _ => rfl
  | k + 1, h => by rw [cntR, cntR, cntR_eq k (fun j hj => h j (by omega)), h (4 * k + 1) (by omega), h (4 * k + 2) (by omega), h (4 * k + 3) (by omega)]
def IO (L Rz C : Nat) (Y : lS) : Prop := (∀ t : Nat → Nat, qT L Rz C t → (Y.2.2.2 (cn_key t) = true ↔ t 0 < cntR Y.2.2.1 (t 1) (t 2) (t 3) Y.2.1)) ∧ ∀ k, k < Y.2.1 → Y.2.2.1 (4 * k) = cntR Y.2.2.1 (Y.2.2.1 (4 * k + 1)) (Y.2.2.1 (4 * k + 2)) (Y.2.2.1 (4 * k + 3)) k
theorem IO_fin {jp : Nat → Nat} {L Rz C : Nat} {Y : lS} {t : Nat → Nat} (hR : Rz ≤ 4) (hC : C ≤ 3) (h : IO L Rz C Y) (ht : qT L Rz C t) (hc : t 3 < jp (4 * t 2 + t 1) → ∀ y, y < t 0 → ∃ v : Nat → Nat, qT L Rz C v ∧ v 0 = y ∧ v 1 = t 1 ∧ v 2 = t 2 ∧ v 3 = t 3 ∧ Y.2.2.2 (cn_key v) = true) : IO L Rz C (cn_fin jp t Y) := by
  unfold cn_fin
  by_cases e : t 3 < jp (4 * t 2 + t 1) ∧ Y.2.2.2 (cn_key t) = false
  · rw [if_pos e]
    obtain ⟨h1, h2⟩ := h
    have k1 : ¬ t 0 < cntR Y.2.2.1 (t 1) (t 2) (t 3) Y.2.1 := fun q => by rw [(h1 t ht).mpr q] at e; exact Bool.noConfusion e.2
    have k2 : t 0 ≤ cntR Y.2.2.1 (t 1) (t 2) (t 3) Y.2.1 := by
      rcases Nat.eq_zero_or_pos (t 0) with z | z
      · omega
      · obtain ⟨v, hv, v0, v1, v2, v3, v4⟩ := hc e.1 (t 0 - 1) (by omega)
        have := (h1 v hv).mp v4
        rw [v0, v1, v2, v3] at this
        omega
    have old : ∀ j, j < 4 * Y.2.1 → cn_put Y.2.2.1 Y.2.1 t 4 j = Y.2.2.1 j := fun j hj => cn_put_lt9 hj 4
    have at0 : cn_put Y.2.2.1 Y.2.1 t 4 (4 * Y.2.1) = t 0 := cn_put_at9 (j := 0) 4 (by omega)
    have at1 : cn_put Y.2.2.1 Y.2.1 t 4 (4 * Y.2.1 + 1) = t 1 := cn_put_at9 4 (by omega)
    have at2 : cn_put Y.2.2.1 Y.2.1 t 4 (4 * Y.2.1 + 2) = t 2 := cn_put_at9 4 (by omega)
    have at3 : cn_put Y.2.2.1 Y.2.1 t 4 (4 * Y.2.1 + 3) = t 3 := cn_put_at9 4 (by omega)
    have cold : ∀ a b d k, k ≤ Y.2.1 → cntR (cn_put Y.2.2.1 Y.2.1 t 4) a b d k = cntR Y.2.2.1 a b d k := fun a b d k hk => cntR_eq k (fun j hj => old j (by omega))
    refine ⟨fun v hv => ?_, fun k hk => ?_⟩
    · show va_up Y.2.2.2 (cn_key t) true (cn_key v) = true ↔ v 0 < cntR (cn_put Y.2.2.1 Y.2.1 t 4) (v 1) (v 2) (v 3) (Y.2.1 + 1)
      rw [cntR, at1, at2, at3, cold _ _ _ _ (Nat.le_refl _)]
      by_cases q : t 1 = v 1 ∧ t 2 = v 2 ∧ t 3 = v 3
      · rw [if_pos q, ← q.1, ← q.2.1, ← q.2.2]
        by_cases q2 : v 0 = t 0
        · have q3 : cn_key v = cn_key t := by unfold cn_key; rw [q2, q.1, q.2.1, q.2.2]
          rw [q3, va_up_self]
          exact ⟨fun _ => by omega, fun _ => rfl⟩
        · have q3 : ¬ cn_key v = cn_key t := fun z => q2 (cn_key_inj hR hC hv ht z).1
          rw [va_up_ne _ _ q3, h1 v hv, ← q.1, ← q.2.1, ← q.2.2]
          omega
      · rw [if_neg q, Nat.add_zero]
        have q3 : ¬ cn_key v = cn_key t := fun z => by
          obtain ⟨-, z1, z2, z3⟩ := cn_key_inj hR hC hv ht z
          exact q ⟨z1.symm, z2.symm, z3.symm⟩
        rw [va_up_ne _ _ q3]
        exact h1 v hv
    · have hk : k < Y.2.1 + 1 := hk
      show cn_put Y.2.2.1 Y.2.1 t 4 (4 * k) = cntR (cn_put Y.2.2.1 Y.2.1 t 4) (cn_put Y.2.2.1 Y.2.1 t 4 (4 * k + 1)) (cn_put Y.2.2.1 Y.2.1 t 4 (4 * k + 2)) (cn_put Y.2.2.1 Y.2.1 t 4 (4 * k + 3)) k
      by_cases q : k = Y.2.1
      · subst q
        rw [at0, at1, at2, at3, cold _ _ _ _ (Nat.le_refl _)]
        omega
      · rw [old _ (by omega), old _ (by omega), old _ (by omega), old _ (by omega), cold _ _ _ _ (by omega)]
        exact h2 k (by omega)
  · rw [if_neg e]
    exact h
theorem fin_mono {jp : Nat → Nat} {Y : lS} {t : Nat → Nat} {k : Nat} (h : Y.2.2.2 k = true) : (cn_fin jp t Y).2.2.2 k = true := by
  unfold cn_fin
  split
  · show va_up Y.2.2.2 (cn_key t) true k = true
    unfold va_up
    split
    · rfl
    · exact h
  · exact h
theorem fin_set {jp : Nat → Nat} {Y : lS} {t : Nat → Nat} (h : t 3 < jp (4 * t 2 + t 1)) : (cn_fin jp t Y).2.2.2 (cn_key t) = true := by
  unfold cn_fin
  by_cases e : t 3 < jp (4 * t 2 + t 1) ∧ Y.2.2.2 (cn_key t) = false
  · rw [if_pos e]
    show va_up Y.2.2.2 (cn_key t) true (cn_key t) = true
    rw [va_up_self]
  · rw [if_neg e]
    show Y.2.2.2 (cn_key t) = true
    cases z : Y.2.2.2 (cn_key t) with
    | true => rfl
    | false => exact absurd ⟨h, z⟩ e
theorem dig {A B D : Nat} {i : Nat} (hB : 1 ≤ B) : i / B * B + i % B = i := Nat.div_add_mod' i B
theorem cn_key_eq {t v : Nat → Nat} (h : ∀ j, j < 4 → t j = v j) : cn_key t = cn_key v := by
  unfold cn_key
  rw [h 0 (by omega), h 1 (by omega), h 2 (by omega), h 3 (by omega)]
/-- all numbers below the product, by their digits -/
theorem dig4 {A B D F i : Nat} (hB : 1 ≤ B) (hD : 1 ≤ D) (hF : 1 ≤ F) (hi : i < A * B * D * F) : ∃ x y u v, x < A ∧ y < B ∧ u < D ∧ v < F ∧ i = ((x * B + y) * D + u) * F + v := by
  refine ⟨i / F / D / B, i / F / D % B, i / F % D, i % F, ?_, Nat.mod_lt _ (by omega), Nat.mod_lt _ (by omega), Nat.mod_lt _ (by omega), ?_⟩
  · refine Nat.div_lt_of_lt_mul (Nat.div_lt_of_lt_mul (Nat.div_lt_of_lt_mul ?_))
    have e : F * (D * (B * A)) = A * B * D * F := by simp only [Nat.mul_comm, Nat.mul_left_comm, Nat.mul_assoc]
    rw [e]; exact hi
  · have e1 : i / F / D / B * B + i / F / D % B = i / F / D := Nat.div_add_mod' _ _
    have e2 : i / F / D * D + i / F % D = i / F := Nat.div_add_mod' _ _
    have e3 : i / F * F + i % F = i := Nat.div_add_mod' _ _
    rw [e1, e2, e3]
theorem mul_lt9 {a b k : Nat} (h : a < b) (hk : 1 ≤ k) : a * k < b * k := Nat.mul_lt_mul_of_lt_of_le h (Nat.le_refl k) (by omega)
set_option maxHeartbeats 4000000 in
theorem IO_it {jp E : Nat → Nat} {L Rz C q : Nat} (hq : q < 5) (hR : Rz ≤ 4) (hC : C ≤ 3) (hE : E 0 ≤ L ∧ E 1 ≤ Rz ∧ E 2 ≤ C ∧ E 3 ≤ 4) (hE1 : ∀ j, j < 4 → 1 ≤ E j) {Y : lS} (h : IO L Rz C Y) : ∀ i, i ≤ E (m_ord (q * 4)) * E (m_ord (q * 4 + 1)) * E (m_ord (q * 4 + 2)) * E (m_ord (q * 4 + 3)) → IO L Rz C (cn_it jp E q i Y) ∧ ∀ k, k < i → ∀ T : Nat → Nat, (cn_dec E q 4 (T, k)).1 3 < jp (4 * (cn_dec E q 4 (T, k)).1 2 + (cn_dec E q 4 (T, k)).1 1) → (cn_it jp E q i Y).2.2.2 (cn_key (cn_dec E q 4 (T, k)).1) = true
  | 0, _ => ⟨h, fun k hk => absurd hk (Nat.not_lt_zero _)⟩
  | i + 1, hi => by
    obtain ⟨ih1, ih2⟩ := IO_it hq hR hC hE hE1 h i (by omega)
    obtain ⟨⟨l0, l1, l2, l3⟩, -, hcov⟩ := m_perm q hq
    obtain ⟨x, y, u, v, hx, hy, hu, hv, ei⟩ := dig4 (A := E (m_ord (q * 4))) (hE1 _ l1) (hE1 _ l2) (hE1 _ l3) (Nat.lt_of_succ_le hi)
    have hat := fun (T : Nat → Nat) (i0 i1 i2 i3 : Nat) => cn_dec_at (E := E) hq (t := T) (i0 := i0) (i1 := i1) (i2 := i2) (i3 := i3)
    obtain ⟨t, et⟩ : ∃ z, z = (cn_dec E q 4 ((cn_it jp E q i Y).1, i)).1 := ⟨_, rfl⟩
    have hlt : ∀ j, j < 4 → t j < E j := fun j hj => by rw [et]; exact cn_dec_lt hq hE1 j hj
    have hqt : ∀ w : Nat → Nat, (∀ j, j < 4 → w j < E j) → qT L Rz C w := fun w hw => ⟨Nat.lt_of_lt_of_le (hw 0 (by omega)) hE.1, Nat.lt_of_lt_of_le (hw 1 (by omega)) hE.2.1, Nat.lt_of_lt_of_le (hw 2 (by omega)) hE.2.2.1, Nat.lt_of_lt_of_le (hw 3 (by omega)) hE.2.2.2⟩
    obtain ⟨a0, a1, a2, a3⟩ := hat (cn_it jp E q i Y).1 x y u v hx hy hu hv
    rw [← ei, ← et] at a0 a1 a2 a3
    have e1 : cn_it jp E q (i + 1) Y = cn_fin jp t (cn_it jp E q i Y) := by rw [cn_it, cn_one, et]
    rw [e1]
    have same : ∀ (T : Nat → Nat) k, ∀ (T2 : Nat → Nat) j, j < 4 → k < E (m_ord (q * 4)) * E (m_ord (q * 4 + 1)) * E (m_ord (q * 4 + 2)) * E (m_ord (q * 4 + 3)) → (cn_dec E q 4 (T, k)).1 j = (cn_dec E q 4 (T2, k)).1 j := by
      intro T k T2 j hj hk
      obtain ⟨x, y, u, v, hx, hy, hu, hv, ek⟩ := dig4 (hE1 _ l1) (hE1 _ l2) (hE1 _ l3) hk
      obtain ⟨c0, c1, c2, c3⟩ := hat T x y u v hx hy hu hv
      obtain ⟨d0, d1, d2, d3⟩ := hat T2 x y u v hx hy hu hv
      rw [← ek] at c0 c1 c2 c3 d0 d1 d2 d3
      rcases hcov j hj with z | z | z | z <;> rw [z]
      · rw [c0, d0]
      · rw [c1, d1]
      · rw [c2, d2]
      · rw [c3, d3]
    refine ⟨IO_fin hR hC ih1 (hqt t hlt) (fun hjp w hw => ?_), fun k hk T hT => ?_⟩
    · -- the layer w, all else the same, came before
      have fin : ∀ k, k < i → (∀ j, j < 4 → ¬ j = 0 → (cn_dec E q 4 (t, k)).1 j = t j) → (cn_dec E q 4 (t, k)).1 0 = w → ∃ v : Nat → Nat, qT L Rz C v ∧ v 0 = w ∧ v 1 = t 1 ∧ v 2 = t 2 ∧ v 3 = t 3 ∧ (cn_it jp E q i Y).2.2.2 (cn_key v) = true := by
        intro k hk hj h0
        have b1 := hj 1 (by omega) (by omega)
        have b2 := hj 2 (by omega) (by omega)
        have b3 := hj 3 (by omega) (by omega)
        exact ⟨(cn_dec E q 4 (t, k)).1, hqt _ (fun j hj => cn_dec_lt hq hE1 j hj), h0, b1, b2, b3, ih2 k hk t (by rw [b1, b2, b3]; exact hjp)⟩
      obtain ⟨n01, n02, n03, n12, n13, n23⟩ := (m_perm q hq).2.1
      rcases hcov 0 (by omega) with z | z | z | z
      · have hw2 : w < x := by rw [← z] at a0; omega
        obtain ⟨c0, c1, c2, c3⟩ := hat t w y u v (by omega) hy hu hv
        refine fin (((w * E (m_ord (q * 4 + 1)) + y) * E (m_ord (q * 4 + 2)) + u) * E (m_ord (q * 4 + 3)) + v) ?_ (fun j hj hj0 => ?_) (by rw [z]; exact c0)
        · have s1 := mul_lt9 hw2 (hE1 _ l1)
          have s2 := mul_lt9 (show w * E (m_ord (q * 4 + 1)) + y < x * E (m_ord (q * 4 + 1)) + y by omega) (hE1 _ l2)
          have s3 := mul_lt9 (show (w * E (m_ord (q * 4 + 1)) + y) * E (m_ord (q * 4 + 2)) + u < (x * E (m_ord (q * 4 + 1)) + y) * E (m_ord (q * 4 + 2)) + u by omega) (hE1 _ l3)
          omega
        · rcases hcov j hj with c | c | c | c
          · exact absurd (c.trans z.symm) hj0
          · rw [c, c1, a1]
          · rw [c, c2, a2]
          · rw [c, c3, a3]
      · have hw2 : w < y := by rw [← z] at a1; omega
        obtain ⟨c0, c1, c2, c3⟩ := hat t x w u v hx (by omega) hu hv
        refine fin (((x * E (m_ord (q * 4 + 1)) + w) * E (m_ord (q * 4 + 2)) + u) * E (m_ord (q * 4 + 3)) + v) ?_ (fun j hj hj0 => ?_) (by rw [z]; exact c1)
        · have s2 := mul_lt9 (show x * E (m_ord (q * 4 + 1)) + w < x * E (m_ord (q * 4 + 1)) + y by omega) (hE1 _ l2)
          have s3 := mul_lt9 (show (x * E (m_ord (q * 4 + 1)) + w) * E (m_ord (q * 4 + 2)) + u < (x * E (m_ord (q * 4 + 1)) + y) * E (m_ord (q * 4 + 2)) + u by omega) (hE1 _ l3)
          omega
        · rcases hcov j hj with c | c | c | c
          · rw [c, c0, a0]
          · exact absurd (c.trans z.symm) hj0
          · rw [c, c2, a2]
          · rw [c, c3, a3]
      · have hw2 : w < u := by rw [← z] at a2; omega
        obtain ⟨c0, c1, c2, c3⟩ := hat t x y w v hx hy (by omega) hv
        refine fin (((x * E (m_ord (q * 4 + 1)) + y) * E (m_ord (q * 4 + 2)) + w) * E (m_ord (q * 4 + 3)) + v) ?_ (fun j hj hj0 => ?_) (by rw [z]; exact c2)
        · have s3 := mul_lt9 (show (x * E (m_ord (q * 4 + 1)) + y) * E (m_ord (q * 4 + 2)) + w < (x * E (m_ord (q * 4 + 1)) + y) * E (m_ord (q * 4 + 2)) + u by omega) (hE1 _ l3)
          omega
        · rcases hcov j hj with c | c | c | c
          · rw [c, c0, a0]
          · rw [c, c1, a1]
          · exact absurd (c.trans z.symm) hj0
          · rw [c, c3, a3]
      · have hw2 : w < v := by rw [← z] at a3; omega
        obtain ⟨c0, c1, c2, c3⟩ := hat t x y u w hx hy hu (by omega)
        refine fin (((x * E (m_ord (q * 4 + 1)) + y) * E (m_ord (q * 4 + 2)) + u) * E (m_ord (q * 4 + 3)) + w) (by omega) (fun j hj hj0 => ?_) (by rw [z]; exact c3)
        rcases hcov j hj with c | c | c | c
        · rw [c, c0, a0]
        · rw [c, c1, a1]
        · rw [c, c2, a2]
        · exact absurd (c.trans z.symm) hj0
    · by_cases z : k = i
      · subst z
        have hs := fun j hj => same T k (cn_it jp E q k Y).1 j hj (by omega)
        have hk : cn_key (cn_dec E q 4 (T, k)).1 = cn_key t := cn_key_eq (fun j hj => by rw [et]; exact hs j hj)
        rw [hk]
        refine fin_set ?_
        rw [hs 1 (by omega), hs 2 (by omega), hs 3 (by omega), ← et] at hT
        exact hT
      · exact fin_mono (ih2 k (by omega) T hT)
theorem IO_run {jp : Nat → Nat} {L Rz C q y z k : Nat} (hq : q < 5) (hL : 1 ≤ L) (hR : 1 ≤ Rz ∧ Rz ≤ 4) (hC : 1 ≤ C ∧ C ≤ 3) (hy : 1 ≤ y ∧ 1 ≤ z ∧ 1 ≤ k) {S : (Nat → Nat) × lS} (h : IO L Rz C S.2) : IO L Rz C (co_run jp L Rz C S q y z k).2 := by
  obtain ⟨c0, c1, c2, c3⟩ := m_ends_eq S.1 y z k L Rz C
  have h9 := (IO_it (jp := jp) (E := m_ends S.1 y z k L Rz C) hq hR.2 hC.2 (m_ends_le S.1 y z k L Rz C) (fun j hj => by
    rcases (show j = 0 ∨ j = 1 ∨ j = 2 ∨ j = 3 by omega) with e | e | e | e <;> subst e
    · rw [c0]; omega
    · rw [c1]; omega
    · rw [c2]; omega
    · rw [c3]; omega) h _ (Nat.le_refl _)).1
  rw [ord_mul hq c3] at h9
  exact h9
theorem IO_start {L Rz C : Nat} (hR : Rz ≤ 4) (hC : C ≤ 3) (hL : L ≤ 8) {Y : lS} : IO L Rz C (co_start Y) := by
  refine ⟨fun t ht => ?_, fun k hk => absurd hk (Nat.not_lt_zero _)⟩
  have h2 : cn_key t < 384 := by
    obtain ⟨t0, t1, t2, t3⟩ := ht
    unfold cn_key; omega
  show m_fill false 384 Y.2.2.2 (cn_key t) = true ↔ t 0 < 0
  unfold m_fill
  rw [if_pos h2]
  exact ⟨fun q => Bool.noConfusion q, fun q => absurd q (Nat.not_lt_zero _)⟩
theorem IO_prt {jpr jp : Nat → Nat} {L Rz C : Nat} (hL : 1 ≤ L) (hR : 1 ≤ Rz ∧ Rz ≤ 4) (hC : 1 ≤ C ∧ C ≤ 3) {S : (Nat → Nat) × lS} (h : IO L Rz C S.2) : ∀ n, (∀ i, i < n → jpr (4 * i) < 5 ∧ 1 ≤ jpr (4 * i + 1) ∧ 1 ≤ jpr (4 * i + 2) ∧ 1 ≤ jpr (4 * i + 3)) → IO L Rz C (co_prt jpr jp L Rz C S n).2
  | 0, _ => h
  | n + 1, hn => by
    obtain ⟨h1, h2, h3, h4⟩ := hn n (by omega)
    exact IO_run h1 hL hR hC ⟨h2, h3, h4⟩ (IO_prt hL hR hC h n (fun i hi => hn i (by omega)))
theorem IO_list {jpr jp jen : Nat → Nat} {L Rz C pts : Nat} (hL : 1 ≤ L ∧ L ≤ 8) (hR : 1 ≤ Rz ∧ Rz ≤ 4) (hC : 1 ≤ C ∧ C ≤ 3) {Y : lS} (hn : ∀ i, i < pts → jpr (4 * i) < 5 ∧ 1 ≤ jpr (4 * i + 1) ∧ 1 ≤ jpr (4 * i + 2) ∧ 1 ≤ jpr (4 * i + 3)) : IO L Rz C (co_list jpr jp L Rz C pts jen Y).2 := by
  unfold co_list
  by_cases e : pts = 0
  · subst e
    rw [if_pos rfl]
    exact IO_run (q := 0) (by omega) hL.1 hR hC ⟨by omega, by omega, by omega⟩ (S := (jen, co_start Y)) (IO_start hR.2 hC.2 hL.2)
  · rw [if_neg e]
    exact IO_prt hL.1 hR hC (S := (jen, co_start Y)) (IO_start hR.2 hC.2 hL.2) pts hn

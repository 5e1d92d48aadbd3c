/-! both read the same: the way down a tree of ZERO planes; relations over all bands -/
section RC9
variable {f jf : Nat → Nat} {n : Nat}
theorem pend_c {vs q : Nat → Nat} : ∀ (i : Nat) (x : tX rS), 31 ≤ x.1 → (t_rows (bitR f n) vs 31 q i x).2.2 = x.2.2
  | 0, _, _ => rfl
  | i + 1, x, h => by
    have hm : 31 ≤ max x.1 (x.2.1 (q i)) := Nat.le_trans h (Nat.le_max_left _ _)
    have e : t_nd (bitR f n) vs 31 x (q i) = (max x.1 (x.2.1 (q i)), va_up x.2.1 (q i) (max x.1 (x.2.1 (q i))), x.2.2.1, x.2.2.2) := by
      unfold t_nd
      rw [t_lp_stop (bitR f n) (fun z => by have := z.1; omega)]
    rw [t_rows, e]
    exact pend_c i _ hm
theorem stop_m {z3 : Bool} {vl q : Nat → Nat} {en : Nat} : ∀ (i : Nat) (y : tX mS), ¬ y.2.2.2.1 = 0 → (r_rows (bitM true jf n) z3 vl q en i y).2.2 = y.2.2
  | 0, _, _ => rfl
  | i + 1, y, h => by
    have e : r_nd (bitM true jf n) z3 (vl i) (q i) en y = (max y.1 (y.2.1 (q i)), va_up y.2.1 (q i) (max y.1 (y.2.1 (q i))), y.2.2.1, y.2.2.2) := by
      unfold r_nd
      rw [r_lp_stop (bitM true jf n) (fun z => h z.2.2)]
    rw [r_rows, e]
    exact stop_m i _ h
set_option maxHeartbeats 2000000 in
theorem rz_rows (hf : ∀ j, j < n → f j = jf j) {vs vl q qr : Nat → Nat} : ∀ (i : Nat) (x : tX rS) (y : tX mS), (∀ k, k < i → ∀ j, j < i → q k = q j → k = j) → (∀ k, k < i → ∀ j, j < i → qr k = qr j → k = j) → Br n x.2.2.2 y.2.2.2 → (x.2.2.2.1 = 0 → x.1 = y.1 ∧ x.1 ≤ 30 ∧ ∀ k, k < i → (x.2.1 (q k) = y.2.1 (qr k) ∧ x.2.2.1 (q k) = y.2.2.1 (qr k)) ∧ x.2.1 (q k) ≤ 30) → (0 < i → x.2.2.1 (q 0) = false) →
    (Br n (t_rows (bitR f n) vs 31 q i x).2.2.2 (r_rows (bitM true jf n) true vl qr 1000 i y).2.2.2 ∧ ((t_rows (bitR f n) vs 31 q i x).2.2.2.1 = 0 → (t_rows (bitR f n) vs 31 q i x).1 = (r_rows (bitM true jf n) true vl qr 1000 i y).1 ∧ (∀ k, k < i → ((t_rows (bitR f n) vs 31 q i x).2.1 (q k) = (r_rows (bitM true jf n) true vl qr 1000 i y).2.1 (qr k) ∧ (t_rows (bitR f n) vs 31 q i x).2.2.1 (q k) = (r_rows (bitM true jf n) true vl qr 1000 i y).2.2.1 (qr k)) ∧ (t_rows (bitR f n) vs 31 q i x).2.1 (q k) ≤ 30) ∧ (0 < i → (t_rows (bitR f n) vs 31 q i x).2.2.1 (q 0) = true))) ∨
    ((t_rows (bitR f n) vs 31 q i x).2.2.2.1 = 0 ∧ (r_rows (bitM true jf n) true vl qr 1000 i y).2.2.2.1 = 3 ∧ (0 < i → (t_rows (bitR f n) vs 31 q i x).2.2.1 (q 0) = false))
  | 0, x, y, _, _, hb, hx, _ => Or.inl ⟨hb, fun z => ⟨(hx z).1, fun k hk => absurd hk (Nat.not_lt_zero _), fun h => absurd h (Nat.lt_irrefl 0)⟩⟩
  | i + 1, x, y, hq, hqr, hb, hx, hlf => by
    rw [t_rows, r_rows]
    by_cases cf : x.2.2.2.1 = 0
    · obtain ⟨x1, x0, x2⟩ := hx cf
      obtain ⟨⟨n1, n2⟩, n3⟩ := x2 i (by omega)
      obtain ⟨m, em⟩ : ∃ z, z = max x.1 (x.2.1 (q i)) := ⟨_, rfl⟩
      have hm : m ≤ 30 := by rw [em]; exact Nat.max_le.mpr ⟨x0, n3⟩
      have em2 : max y.1 (y.2.1 (qr i)) = m := by rw [em, x1, n1]
      obtain ⟨T, eT⟩ : ∃ z, z = t_lp (bitR f n) (vs (q i)) (q i) 31 (31 - m) m x.2.2.1 x.2.2.2 := ⟨_, rfl⟩
      obtain ⟨R, eR⟩ : ∃ z, z = r_lp (bitM true jf n) true (vl i) (qr i) 1000 (1000 - m) m y.2.2.1 y.2.2.2 := ⟨_, rfl⟩
      have eX : t_nd (bitR f n) vs 31 x (q i) = (T.1, va_up x.2.1 (q i) T.1, T.2.1, T.2.2) := by unfold t_nd; rw [← em, ← eT]
      have eY : r_nd (bitM true jf n) true (vl i) (qr i) 1000 y = (R.1, va_up y.2.1 (qr i) R.1, R.2) := by unfold r_nd; rw [em2, ← eR]
      have dT : ∀ j, ¬ j = q i → T.2.1 j = x.2.2.1 j := fun j hj => by rw [eT]; exact lp_dn hj _ _ _ _
      have dR : ∀ j, ¬ j = qr i → R.2.1 j = y.2.2.1 j := fun j hj => by rw [eR]; exact rlp_dn hj _ _ _ _
      rw [eX, eY]
      have hcase : (Br n T.2.2 R.2.2 ∧ (T.2.2.1 = 0 → T.1 = R.1 ∧ T.1 ≤ 30 ∧ T.2.1 (q i) = R.2.1 (qr i) ∧ (i = 0 → T.2.1 (q i) = true))) ∨ (T.2.2.1 = 0 ∧ R.2.2.1 = 3 ∧ T.1 = 31 ∧ T.2.1 (q i) = false) := by
        by_cases cd : x.2.2.1 (q i) = true
        · have cT : T = (m, x.2.2.1, x.2.2.2) := by rw [eT]; exact t_lp_stop _ (fun z => by rw [cd] at z; exact Bool.noConfusion z.2)
          have cR : R = (m, y.2.2.1, y.2.2.2) := by rw [eR]; exact r_lp_stop _ (fun z => by rw [← n2, cd] at z; exact Bool.noConfusion z.2.1)
          rw [cT, cR]
          exact Or.inl ⟨hb, fun _ => ⟨rfl, hm, n2, fun _ => cd⟩⟩
        · have cd : x.2.2.1 (q i) = false := by
            cases e9 : x.2.2.1 (q i) with
            | true => exact absurd e9 cd
            | false => rfl
          have hz := rq_lpz hf (v := vs (q i)) (v2 := vl i) (a := q i) (b := qr i) (31 - m) m x.2.2.1 y.2.2.1 x.2.2.2 y.2.2.2 (by omega) cd (by rw [← n2]; exact cd) hb
          rw [show 31 - m + 969 = 1000 - m by omega, ← eT, ← eR] at hz
          rcases hz with ⟨h1, h2⟩ | h
          · refine Or.inl ⟨h1, fun z => ?_⟩
            obtain ⟨g1, g2, g3, g4⟩ := h2 z
            exact ⟨g1, g2, by rw [g3, g4], fun _ => g3⟩
          · exact Or.inr h
      rcases hcase with ⟨hbT, hT⟩ | ⟨h1, h2, h3, h4⟩
      · have ih := rz_rows hf (vs := vs) (vl := vl) (q := q) (qr := qr) i (T.1, va_up x.2.1 (q i) T.1, T.2.1, T.2.2) (R.1, va_up y.2.1 (qr i) R.1, R.2) (fun k hk j hj => hq k (by omega) j (by omega)) (fun k hk j hj => hqr k (by omega) j (by omega)) hbT (fun z => by
          obtain ⟨t1, t2, t3, -⟩ := hT z
          refine ⟨t1, t2, fun k hk => ?_⟩
          have k1 : ¬ q k = q i := fun w => by have := hq k (by omega) i (by omega) w; omega
          have k2 : ¬ qr k = qr i := fun w => by have := hqr k (by omega) i (by omega) w; omega
          obtain ⟨⟨p1, p2⟩, p3⟩ := x2 k (by omega)
          refine ⟨⟨?_, ?_⟩, ?_⟩
          · show va_up x.2.1 (q i) T.1 (q k) = va_up y.2.1 (qr i) R.1 (qr k)
            rw [va_up_ne _ _ k1, va_up_ne _ _ k2]; exact p1
          · show T.2.1 (q k) = R.2.1 (qr k)
            rw [dT _ k1, dR _ k2]; exact p2
          · show va_up x.2.1 (q i) T.1 (q k) ≤ 30
            rw [va_up_ne _ _ k1]; exact p3) (fun h0 => by
          show T.2.1 (q 0) = false
          rw [dT _ (fun w => by have := hq 0 (by omega) i (by omega) w; omega)]
          exact hlf (by omega))
        refine ih.imp (fun ⟨r1, r2⟩ => ⟨r1, fun z => ?_⟩) (fun ⟨r1, r2, r3⟩ => ⟨r1, r2, fun _ => ?_⟩)
        · obtain ⟨r3, r4, r5⟩ := r2 z
          have zT : T.2.2.1 = 0 := by
            by_cases w : T.2.2.1 = 0
            · exact w
            · rw [rows_flt (f := f) (n := n) (vs := vs) (q := q) (en := 31) i (T.1, va_up x.2.1 (q i) T.1, T.2.1, T.2.2) w] at z; exact absurd z w
          obtain ⟨t1, t2, t3, t4⟩ := hT zT
          refine ⟨r3, fun k hk => ?_, fun _ => ?_⟩
          · by_cases ck : k = i
            · subst ck
              obtain ⟨o1, o2⟩ := rows_out (bit := bitR f n) (vs := vs) (en := 31) (q := q) (j := q k) k (T.1, va_up x.2.1 (q k) T.1, T.2.1, T.2.2) (fun j hj w => by have := hq k (by omega) j (by omega) w; omega)
              obtain ⟨o3, o4⟩ := rrows_out (bit := bitM true jf n) (z3 := true) (vl := vl) (en := 1000) (q := qr) (j := qr k) k (R.1, va_up y.2.1 (qr k) R.1, R.2) (fun j hj w => by have := hqr k (by omega) j (by omega) w; omega)
              rw [o1, o2, o3, o4]
              refine ⟨⟨?_, t3⟩, ?_⟩
              · show va_up x.2.1 (q k) T.1 (q k) = va_up y.2.1 (qr k) R.1 (qr k)
                rw [va_up_self, va_up_self]; exact t1
              · show va_up x.2.1 (q k) T.1 (q k) ≤ 30
                rw [va_up_self]; exact t2
            · exact r4 k (by omega)
          · by_cases c0 : i = 0
            · subst c0; exact t4 rfl
            · exact r5 (by omega)
        · by_cases c0 : i = 0
          · subst c0
            have e3 : R.2.2.1 = 3 := r2
            have e0 : T.2.2.1 = 0 := r1
            have := hbT.1
            rw [e3, e0] at this
            exact absurd this (by omega)
          · exact r3 (by omega)
      · right
        have p1 := pend_c (f := f) (n := n) (vs := vs) (q := q) i (T.1, va_up x.2.1 (q i) T.1, T.2.1, T.2.2) (by show 31 ≤ T.1; omega)
        have p2 := stop_m (jf := jf) (n := n) (z3 := true) (vl := vl) (q := qr) (en := 1000) i (R.1, va_up y.2.1 (qr i) R.1, R.2) (by show ¬ R.2.2.1 = 0; rw [h2]; omega)
        rw [p1, p2]
        refine ⟨h1, h2, fun _ => ?_⟩
        show T.2.1 (q 0) = false
        by_cases c0 : i = 0
        · subst c0; exact h4
        · rw [dT _ (fun w => by have := hq 0 (by omega) i (by omega) w; omega)]
          exact hlf (by omega)
    · left
      have e1 : (t_nd (bitR f n) vs 31 x (q i)).2.2.2 = x.2.2.2 := lp_flt (f := f) (n := n) _ _ _ _ cf
      have cs : ¬ y.2.2.2.1 = 0 := by rw [← hb.1]; exact cf
      have e2 : (r_nd (bitM true jf n) true (vl i) (qr i) 1000 y).2.2.2 = y.2.2.2 := by
        unfold r_nd
        rw [r_lp_stop (bitM true jf n) (fun q => cs q.2.2)]
      have e3 := rows_flt (f := f) (n := n) (vs := vs) (q := q) (en := 31) i (t_nd (bitR f n) vs 31 x (q i)) (by rw [e1]; exact cf)
      have e4 := stop_m (jf := jf) (n := n) (z3 := true) (vl := vl) (q := qr) (en := 1000) i (r_nd (bitM true jf n) true (vl i) (qr i) 1000 y) (by rw [e2]; exact cs)
      rw [e3, e1, e4, e2]
      exact ⟨hb, fun z => absurd z cf⟩
end RC9

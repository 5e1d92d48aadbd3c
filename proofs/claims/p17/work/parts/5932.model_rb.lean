/-! both read the same: trees -/
section RB9
variable {f jf : Nat → Nat} {n : Nat}
theorem lp_flt {v a en : Nat} : ∀ (i lw : Nat) (dn : Nat → Bool) (u : rS), ¬ u.1 = 0 → (t_lp (bitR f n) v a en i lw dn u).2.2 = u
  | 0, _, _, _, _ => rfl
  | i + 1, lw, dn, u, h => by
    rw [t_lp, bit_flt h]
    split
    · rw [if_neg (show ¬ (false, u).1 = true from fun q => Bool.noConfusion (show false = true from q))]
      exact lp_flt i _ _ u h
    · rfl
theorem lp_dn {β : Type} {bit : β → Bool → Bool × β} {v a en j : Nat} (hj : ¬ j = a) : ∀ (i lw : Nat) (dn : Nat → Bool) (u : β), (t_lp bit v a en i lw dn u).2.1 j = dn j
  | 0, _, _, _ => rfl
  | i + 1, lw, dn, u => by
    rw [t_lp]
    split
    · split
      · exact va_up_ne _ _ hj
      · exact lp_dn hj i _ _ _
    · rfl
theorem rlp_dn {bit : mS → Bool → Bool × mS} {z3 : Bool} {v a en j : Nat} (hj : ¬ j = a) : ∀ (i lw : Nat) (dn : Nat → Bool) (s : mS), (r_lp bit z3 v a en i lw dn s).2.1 j = dn j
  | 0, _, _, _ => rfl
  | i + 1, lw, dn, s => by
    rw [r_lp]
    split
    · split
      · rfl
      · split
        · exact va_up_ne _ _ hj
        · exact rlp_dn hj i _ _ _
    · rfl
theorem rq_lp (hf : ∀ j, j < n → f j = jf j) {v v2 a b en : Nat} : ∀ (i lw : Nat) (dn jd : Nat → Bool) (u : rS) (s : mS), dn a = jd b → Br n u s →
    Br n (t_lp (bitR f n) v a en i lw dn u).2.2 (r_lp (bitM true jf n) false v2 b en i lw jd s).2.2 ∧ ((t_lp (bitR f n) v a en i lw dn u).2.2.1 = 0 → (t_lp (bitR f n) v a en i lw dn u).1 = (r_lp (bitM true jf n) false v2 b en i lw jd s).1 ∧ (t_lp (bitR f n) v a en i lw dn u).2.1 a = (r_lp (bitM true jf n) false v2 b en i lw jd s).2.1 b)
  | 0, lw, dn, jd, u, s, hd, hb => ⟨hb, fun _ => ⟨rfl, hd⟩⟩
  | i + 1, lw, dn, jd, u, s, hd, hb => by
    by_cases cf : u.1 = 0
    · rw [t_lp, r_lp]
      by_cases c : lw < en ∧ dn a = false
      · obtain ⟨b1, b2⟩ := Br_bit hf hb (decide (v = lw)) (decide (v2 = lw))
        rw [if_pos c, if_pos (show lw < en ∧ jd b = false ∧ s.1 = 0 from ⟨c.1, by rw [← hd]; exact c.2, by rw [← hb.1]; exact cf⟩), if_neg (show ¬ (false = true ∧ 30 < lw) from fun q => Bool.noConfusion q.1)]
        by_cases c2 : (bitR f n u (decide (v = lw))).1 = true
        · rw [if_pos c2, if_pos (show (bitM true jf n s (decide (v2 = lw))).1 = true by rw [← b1]; exact c2)]
          exact ⟨b2, fun _ => ⟨rfl, by show va_up dn a true a = va_up jd b true b; rw [va_up_self, va_up_self]⟩⟩
        · rw [if_neg c2, if_neg (show ¬ (bitM true jf n s (decide (v2 = lw))).1 = true by rw [← b1]; exact c2)]
          exact rq_lp hf i (lw + 1) dn jd _ _ hd b2
      · rw [if_neg c, if_neg (show ¬ (lw < en ∧ jd b = false ∧ s.1 = 0) from fun q => c ⟨q.1, by rw [hd]; exact q.2.1⟩)]
        exact ⟨hb, fun _ => ⟨rfl, hd⟩⟩
    · have e := lp_flt (f := f) (n := n) (v := v) (a := a) (en := en) (i + 1) lw dn u cf
      rw [e, r_lp_stop (bitM true jf n) (fun q => cf (by rw [hb.1]; exact q.2.2))]
      exact ⟨hb, fun q => absurd q cf⟩
/-- a node of ZERO planes that is not done -/
theorem rq_lpz (hf : ∀ j, j < n → f j = jf j) {v v2 a b : Nat} : ∀ (i lw : Nat) (dn jd : Nat → Bool) (u : rS) (s : mS), lw + i = 31 → dn a = false → jd b = false → Br n u s →
    (Br n (t_lp (bitR f n) v a 31 i lw dn u).2.2 (r_lp (bitM true jf n) true v2 b 1000 (i + 969) lw jd s).2.2 ∧ ((t_lp (bitR f n) v a 31 i lw dn u).2.2.1 = 0 → (t_lp (bitR f n) v a 31 i lw dn u).1 = (r_lp (bitM true jf n) true v2 b 1000 (i + 969) lw jd s).1 ∧ (t_lp (bitR f n) v a 31 i lw dn u).1 ≤ 30 ∧ (t_lp (bitR f n) v a 31 i lw dn u).2.1 a = true ∧ (r_lp (bitM true jf n) true v2 b 1000 (i + 969) lw jd s).2.1 b = true)) ∨
    ((t_lp (bitR f n) v a 31 i lw dn u).2.2.1 = 0 ∧ (r_lp (bitM true jf n) true v2 b 1000 (i + 969) lw jd s).2.2.1 = 3 ∧ (t_lp (bitR f n) v a 31 i lw dn u).1 = 31 ∧ (t_lp (bitR f n) v a 31 i lw dn u).2.1 a = false)
  | 0, lw, dn, jd, u, s, hw, hd, hj, hb => by
    by_cases cf : u.1 = 0
    · right
      rw [show 0 + 969 = 968 + 1 from rfl, r_lp, if_pos (show lw < 1000 ∧ jd b = false ∧ s.1 = 0 from ⟨by omega, hj, by rw [← hb.1]; exact cf⟩), if_pos (show true = true ∧ 30 < lw from ⟨rfl, by omega⟩)]
      exact ⟨cf, rfl, by show lw = 31; omega, hd⟩
    · left
      rw [r_lp_stop (bitM true jf n) (fun q => cf (by rw [hb.1]; exact q.2.2))]
      exact ⟨hb, fun q => absurd q cf⟩
  | i + 1, lw, dn, jd, u, s, hw, hd, hj, hb => by
    by_cases cf : u.1 = 0
    · rw [t_lp, show i + 1 + 969 = (i + 969) + 1 by omega, r_lp]
      obtain ⟨b1, b2⟩ := Br_bit hf hb (decide (v = lw)) (decide (v2 = lw))
      rw [if_pos (show lw < 31 ∧ dn a = false from ⟨by omega, hd⟩), if_pos (show lw < 1000 ∧ jd b = false ∧ s.1 = 0 from ⟨by omega, hj, by rw [← hb.1]; exact cf⟩), if_neg (show ¬ (true = true ∧ 30 < lw) from fun q => by have := q.2; omega)]
      by_cases c2 : (bitR f n u (decide (v = lw))).1 = true
      · rw [if_pos c2, if_pos (show (bitM true jf n s (decide (v2 = lw))).1 = true by rw [← b1]; exact c2)]
        exact Or.inl ⟨b2, fun _ => ⟨rfl, by show lw ≤ 30; omega, va_up_self _ _ _, va_up_self _ _ _⟩⟩
      · rw [if_neg c2, if_neg (show ¬ (bitM true jf n s (decide (v2 = lw))).1 = true by rw [← b1]; exact c2)]
        exact rq_lpz hf i (lw + 1) dn jd _ _ (by omega) hd hj b2
    · have e := lp_flt (f := f) (n := n) (v := v) (a := a) (en := 31) (i + 1) lw dn u cf
      left
      rw [e, r_lp_stop (bitM true jf n) (fun q => cf (by rw [hb.1]; exact q.2.2))]
      exact ⟨hb, fun q => absurd q cf⟩
theorem rows_flt {vs q : Nat → Nat} {en : Nat} : ∀ (i : Nat) (x : tX rS), ¬ x.2.2.2.1 = 0 → (t_rows (bitR f n) vs en q i x).2.2.2 = x.2.2.2
  | 0, _, _ => rfl
  | i + 1, x, h => by
    rw [t_rows]
    have e := lp_flt (f := f) (n := n) (v := vs (q i)) (a := q i) (en := en) (en - max x.1 (x.2.1 (q i))) (max x.1 (x.2.1 (q i))) x.2.2.1 x.2.2.2 h
    have e2 : (t_nd (bitR f n) vs en x (q i)).2.2.2 = x.2.2.2 := e
    rw [rows_flt i _ (by rw [e2]; exact h), e2]
theorem rows_out {β : Type} {bit : β → Bool → Bool × β} {vs q : Nat → Nat} {en j : Nat} : ∀ (i : Nat) (x : tX β), (∀ k, k < i → ¬ j = q k) → (t_rows bit vs en q i x).2.1 j = x.2.1 j ∧ (t_rows bit vs en q i x).2.2.1 j = x.2.2.1 j
  | 0, _, _ => ⟨rfl, rfl⟩
  | i + 1, x, h => by
    rw [t_rows]
    obtain ⟨h1, h2⟩ := rows_out (bit := bit) (vs := vs) (en := en) i (t_nd bit vs en x (q i)) (fun k hk => h k (by omega))
    rw [h1, h2]
    exact ⟨va_up_ne _ _ (h i (by omega)), lp_dn (h i (by omega)) _ _ _ _⟩
theorem rrows_out {bit : mS → Bool → Bool × mS} {z3 : Bool} {vl q : Nat → Nat} {en j : Nat} : ∀ (i : Nat) (x : tX mS), (∀ k, k < i → ¬ j = q k) → (r_rows bit z3 vl q en i x).2.1 j = x.2.1 j ∧ (r_rows bit z3 vl q en i x).2.2.1 j = x.2.2.1 j
  | 0, _, _ => ⟨rfl, rfl⟩
  | i + 1, x, h => by
    rw [r_rows]
    obtain ⟨h1, h2⟩ := rrows_out (bit := bit) (z3 := z3) (vl := vl) (en := en) i (r_nd bit z3 (vl i) (q i) en x) (fun k hk => h k (by omega))
    rw [h1, h2]
    exact ⟨va_up_ne _ _ (h i (by omega)), rlp_dn (h i (by omega)) _ _ _ _⟩
/-- the way down a tree of FIRST values -/
theorem rq_rows (hf : ∀ j, j < n → f j = jf j) {vs vl q qr : Nat → Nat} {en : Nat} : ∀ (i : Nat) (x : tX rS) (y : tX mS), (∀ k, k < i → ∀ j, j < i → q k = q j → k = j) → (∀ k, k < i → ∀ j, j < i → qr k = qr j → k = j) → Br n x.2.2.2 y.2.2.2 → (x.2.2.2.1 = 0 → x.1 = y.1 ∧ ∀ k, k < i → x.2.1 (q k) = y.2.1 (qr k) ∧ x.2.2.1 (q k) = y.2.2.1 (qr k)) →
    Br n (t_rows (bitR f n) vs en q i x).2.2.2 (r_rows (bitM true jf n) false vl qr en i y).2.2.2 ∧ ((t_rows (bitR f n) vs en q i x).2.2.2.1 = 0 → (t_rows (bitR f n) vs en q i x).1 = (r_rows (bitM true jf n) false vl qr en i y).1 ∧ ∀ k, k < i → (t_rows (bitR f n) vs en q i x).2.1 (q k) = (r_rows (bitM true jf n) false vl qr en i y).2.1 (qr k) ∧ (t_rows (bitR f n) vs en q i x).2.2.1 (q k) = (r_rows (bitM true jf n) false vl qr en i y).2.2.1 (qr k))
  | 0, x, y, _, _, hb, hx => ⟨hb, fun q => ⟨(hx q).1, fun k hk => absurd hk (Nat.not_lt_zero _)⟩⟩
  | i + 1, x, y, hq, hqr, hb, hx => by
    rw [t_rows, r_rows]
    by_cases cf : x.2.2.2.1 = 0
    · obtain ⟨x1, x2⟩ := hx cf
      obtain ⟨n1, n2⟩ := x2 i (by omega)
      obtain ⟨l1, l2⟩ := rq_lp hf (v := vs (q i)) (v2 := vl i) (a := q i) (b := qr i) (en := en) (en - max x.1 (x.2.1 (q i))) (max x.1 (x.2.1 (q i))) x.2.2.1 y.2.2.1 x.2.2.2 y.2.2.2 n2 hb
      have ey : r_nd (bitM true jf n) false (vl i) (qr i) en y = ((r_lp (bitM true jf n) false (vl i) (qr i) en (en - max x.1 (x.2.1 (q i))) (max x.1 (x.2.1 (q i))) y.2.2.1 y.2.2.2).1, va_up y.2.1 (qr i) (r_lp (bitM true jf n) false (vl i) (qr i) en (en - max x.1 (x.2.1 (q i))) (max x.1 (x.2.1 (q i))) y.2.2.1 y.2.2.2).1, (r_lp (bitM true jf n) false (vl i) (qr i) en (en - max x.1 (x.2.1 (q i))) (max x.1 (x.2.1 (q i))) y.2.2.1 y.2.2.2).2) := by
        unfold r_nd
        rw [← x1, ← n1]
      obtain ⟨X, eX⟩ : ∃ z, z = t_nd (bitR f n) vs en x (q i) := ⟨_, rfl⟩
      obtain ⟨Y, eY⟩ : ∃ z, z = r_nd (bitM true jf n) false (vl i) (qr i) en y := ⟨_, rfl⟩
      have c1 : X.2.2.2.1 = 0 → X.1 = Y.1 ∧ (X.2.1 (q i) = Y.2.1 (qr i) ∧ X.2.2.1 (q i) = Y.2.2.1 (qr i)) ∧ ∀ k, k < i → X.2.1 (q k) = Y.2.1 (qr k) ∧ X.2.2.1 (q k) = Y.2.2.1 (qr k) := fun z => by
        rw [eX] at z
        obtain ⟨m1, m2⟩ := l2 z
        rw [eX, eY, ey]
        refine ⟨m1, ⟨?_, m2⟩, fun k hk => ?_⟩
        · show va_up x.2.1 (q i) _ (q i) = va_up y.2.1 (qr i) _ (qr i)
          rw [va_up_self, va_up_self]; exact m1
        · have k1 : ¬ q k = q i := fun w => by have := hq k (by omega) i (by omega) w; omega
          have k2 : ¬ qr k = qr i := fun w => by have := hqr k (by omega) i (by omega) w; omega
          obtain ⟨p1, p2⟩ := x2 k (by omega)
          refine ⟨?_, ?_⟩
          · show va_up x.2.1 (q i) _ (q k) = va_up y.2.1 (qr i) _ (qr k)
            rw [va_up_ne _ _ k1, va_up_ne _ _ k2]; exact p1
          · show (t_lp _ _ _ _ _ _ _ _).2.1 (q k) = (r_lp _ _ _ _ _ _ _ _ _).2.1 (qr k)
            rw [lp_dn k1, rlp_dn k2]; exact p2
      have hbX : Br n X.2.2.2 Y.2.2.2 := by rw [eX, eY, ey]; exact l1
      rw [← eX, ← eY]
      obtain ⟨r1, r2⟩ := rq_rows hf (vs := vs) (vl := vl) (q := q) (qr := qr) (en := en) i X Y (fun k hk j hj => hq k (by omega) j (by omega)) (fun k hk j hj => hqr k (by omega) j (by omega)) hbX (fun z => ⟨(c1 z).1, (c1 z).2.2⟩)
      refine ⟨r1, fun z => ⟨(r2 z).1, fun k hk => ?_⟩⟩
      by_cases ck : k = i
      · subst ck
        have zX : X.2.2.2.1 = 0 := by
          by_cases w : X.2.2.2.1 = 0
          · exact w
          · rw [rows_flt (f := f) (n := n) (vs := vs) (q := q) (en := en) k X w] at z; exact absurd z w
        obtain ⟨o1, o2⟩ := rows_out (bit := bitR f n) (vs := vs) (en := en) (q := q) (j := q k) k X (fun j hj w => by have := hq k (by omega) j (by omega) w; omega)
        obtain ⟨o3, o4⟩ := rrows_out (bit := bitM true jf n) (z3 := false) (vl := vl) (en := en) (q := qr) (j := qr k) k Y (fun j hj w => by have := hqr k (by omega) j (by omega) w; omega)
        rw [o1, o2, o3, o4]
        exact (c1 zX).2.1
      · exact (r2 z).2 k (by omega)
    · have e1 : (t_nd (bitR f n) vs en x (q i)).2.2.2 = x.2.2.2 := lp_flt (f := f) (n := n) _ _ _ _ cf
      have cs : ¬ y.2.2.2.1 = 0 := by rw [← hb.1]; exact cf
      have e2 : (r_nd (bitM true jf n) false (vl i) (qr i) en y).2.2.2 = y.2.2.2 := by
        unfold r_nd
        rw [r_lp_stop (bitM true jf n) (fun q => cs q.2.2)]
      refine rq_rows hf (vs := vs) (vl := vl) (q := q) (qr := qr) (en := en) i _ _ (fun k hk j hj => hq k (by omega) j (by omega)) (fun k hk j hj => hqr k (by omega) j (by omega)) (by rw [e1, e2]; exact hb) (fun z => absurd z (by rw [e1]; exact cf)) |>.imp id (fun h z => ?_)
      refine ⟨(h z).1, fun k hk => ?_⟩
      have := rows_flt (f := f) (n := n) (vs := vs) (q := q) (en := en) i (t_nd (bitR f n) vs en x (q i)) (by rw [e1]; exact cf)
      rw [this, e1] at z
      exact absurd z cf
end RB9

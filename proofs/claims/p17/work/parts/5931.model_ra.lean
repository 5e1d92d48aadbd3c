/-! both read the same: bits, numbers, nodes, lengths -/
section RA
variable {f jf : Nat → Nat} {n : Nat}
/-- the class's reader and the reference's -/
def Br (n : Nat) (u : rS) (s : mS) : Prop := u.1 = s.1 ∧ (u.1 = 0 → u.2.1 = s.2.1 ∧ u.2.2.1 = s.2.2.2.1 ∧ s.2.2.2.2.1 = s.2.2.2.1 ∧ u.2.2.2 = s.2.2.1 ∧ s.2.1 ≤ n)
theorem rb_fl {fl rc cu lf : Nat} (h : ¬ fl = 0) : m_rb f n fl rc cu lf = (false, fl, rc, cu, lf) := by
  have e : m_rf f n fl rc cu lf = (fl, rc, cu, lf) := by unfold m_rf; rw [if_neg (fun q => h q.1)]
  unfold m_rb
  rw [e]
  exact if_neg h
theorem rb_mid {rc cu lf : Nat} (h : ¬ lf = 0) : m_rb f n 0 rc cu lf = (decide (cu / 2 ^ (lf - 1) &&& 1 = 1), 0, rc, cu, lf - 1) := by
  have e : m_rf f n 0 rc cu lf = (0, rc, cu, lf) := by unfold m_rf; rw [if_neg (fun q => h q.2)]
  unfold m_rb
  rw [e]
  exact if_pos rfl
theorem rb_end {rc cu : Nat} (h : n ≤ rc) : m_rb f n 0 rc cu 0 = (false, 1, rc, cu, 0) := by
  have e : m_rf f n 0 rc cu 0 = (1, rc, cu, 0) := by unfold m_rf; rw [if_pos ⟨rfl, rfl⟩, if_pos h]
  unfold m_rb
  rw [e]
  exact if_neg (show ¬ (1 : Nat) = 0 by omega)
theorem rb_stf {rc cu : Nat} (h : ¬ n ≤ rc) (h2 : cu = 255 ∧ 127 < f rc) : m_rb f n 0 rc cu 0 = (false, 2, rc, cu, 0) := by
  have e : m_rf f n 0 rc cu 0 = (2, rc, cu, 0) := by unfold m_rf; rw [if_pos ⟨rfl, rfl⟩, if_neg h, if_pos h2]
  unfold m_rb
  rw [e]
  exact if_neg (show ¬ (2 : Nat) = 0 by omega)
theorem rb_new {rc cu : Nat} (h : ¬ n ≤ rc) (h2 : ¬ (cu = 255 ∧ 127 < f rc)) : m_rb f n 0 rc cu 0 = (decide (f rc / 2 ^ (m_rl cu - 1) &&& 1 = 1), 0, rc + 1, f rc, m_rl cu - 1) := by
  have e : m_rf f n 0 rc cu 0 = (0, rc + 1, f rc, m_rl cu) := by unfold m_rf; rw [if_pos ⟨rfl, rfl⟩, if_neg h, if_neg h2]
  unfold m_rb
  rw [e]
  exact if_pos rfl
theorem gt_fl {s : mS} (h : ¬ s.1 = 0) : r_gt f n s = (false, s) := by unfold r_gt; exact if_neg h
theorem gt_mid {a le no la dr : Nat} {df : Nat → Nat} (h : ¬ le = 0) : r_gt f n ((0, a, le, no, la, dr, df) : mS) = (decide (no / 2 ^ (le - 1) &&& 1 = 1), (0, a, le - 1, no, la, dr, df)) := by
  unfold r_gt
  rw [if_pos rfl, if_neg h]
  rfl
theorem gt_end {a no la dr : Nat} {df : Nat → Nat} (h : a = n) : r_gt f n ((0, a, 0, no, la, dr, df) : mS) = (false, (1, a, 0, no, la, dr, df)) := by
  have e : r_ft f n ((0, a, 0, no, la, dr, df) : mS) = (false, (1, a, 0, no, la, dr, df)) := by
    unfold r_ft
    rw [if_pos (Or.inl h), if_pos h]
  unfold r_gt
  rw [if_pos rfl, if_pos rfl, e]
  exact if_neg (fun q => Bool.noConfusion (show false = true from q))
theorem gt_stf {a no la dr : Nat} {df : Nat → Nat} (h : ¬ a = n) (h2 : la = 255 ∧ 127 < f a) : r_gt f n ((0, a, 0, no, la, dr, df) : mS) = (false, (2, a, 0, no, la, dr, df)) := by
  have e : r_ft f n ((0, a, 0, no, la, dr, df) : mS) = (false, (2, a, 0, no, la, dr, df)) := by
    unfold r_ft
    rw [if_pos (Or.inr h2), if_neg h]
  unfold r_gt
  rw [if_pos rfl, if_pos rfl, e]
  exact if_neg (fun q => Bool.noConfusion (show false = true from q))
theorem gt_new {a no la dr : Nat} {df : Nat → Nat} (h : ¬ a = n) (h2 : ¬ (la = 255 ∧ 127 < f a)) : r_gt f n ((0, a, 0, no, la, dr, df) : mS) = (decide (f a / 2 ^ (m_rl la - 1) &&& 1 = 1), (0, a + 1, m_rl la - 1, f a, f a, dr, df)) := by
  have e : r_ft f n ((0, a, 0, no, la, dr, df) : mS) = (true, (0, a + 1, m_rl la, f a, f a, dr, df)) := by
    unfold r_ft
    rw [if_neg (fun q => q.elim h h2)]
  unfold r_gt
  rw [if_pos rfl, if_pos rfl, e]
  exact if_pos rfl
theorem bitM_T {s : mS} {d : Bool} : bitM true f n s d = r_gt f n s := by unfold bitM; exact if_pos rfl
theorem Br_bit (hf : ∀ j, j < n → f j = jf j) {u : rS} {s : mS} (h : Br n u s) (d d2 : Bool) : (bitR f n u d).1 = (bitM true jf n s d2).1 ∧ Br n (bitR f n u d).2 (bitM true jf n s d2).2 := by
  rw [bitM_T]
  obtain ⟨fl, rc, cu, lf⟩ := u
  obtain ⟨fs, a, le, no, la, dr, df⟩ := s
  obtain ⟨h1, h2⟩ := h
  have h1 : fl = fs := h1
  subst h1
  show (m_rb f n fl rc cu lf).1 = _ ∧ Br n (m_rb f n fl rc cu lf).2 _
  by_cases c : fl = 0
  · subst c
    obtain ⟨k1, k2, k3, k4, k5⟩ : rc = a ∧ cu = no ∧ la = no ∧ lf = le ∧ a ≤ n := h2 rfl
    clear h2
    subst k1; subst k2; subst k3; subst k4
    by_cases c2 : lf = 0
    · subst c2
      by_cases c3 : n ≤ rc
      · rw [rb_end c3, gt_end (show rc = n by omega)]
        exact ⟨rfl, rfl, fun q => absurd q (by show ¬ 1 = 0; omega)⟩
      · have e := hf rc (by omega)
        by_cases c4 : la = 255 ∧ 127 < f rc
        · rw [rb_stf c3 c4, gt_stf (by omega) ⟨c4.1, by rw [← e]; exact c4.2⟩]
          exact ⟨rfl, rfl, fun q => absurd q (by show ¬ 2 = 0; omega)⟩
        · rw [rb_new c3 c4, gt_new (by omega) (by rw [← e]; exact c4), ← e]
          exact ⟨rfl, rfl, fun _ => ⟨rfl, rfl, rfl, rfl, by show rc + 1 ≤ n; omega⟩⟩
    · rw [rb_mid c2, gt_mid c2]
      exact ⟨rfl, rfl, fun _ => ⟨rfl, rfl, rfl, rfl, k5⟩⟩
  · rw [rb_fl c, gt_fl (by exact c)]
    exact ⟨rfl, rfl, fun q => absurd q c⟩
theorem bit_flt {u : rS} (h : ¬ u.1 = 0) (d : Bool) : bitR f n u d = (false, u) := by
  obtain ⟨fl, rc, cu, lf⟩ := u
  exact rb_fl h
theorem bit_tr {u : rS} {d : Bool} (h : (bitR f n u d).1 = true) : (bitR f n u d).2.1 = 0 := by
  unfold bitR m_rb at h ⊢
  split
  · assumption
  · rename_i c
    rw [if_neg c] at h
    exact Bool.noConfusion h
/-! numbers -/
theorem rq_num (hf : ∀ j, j < n → f j = jf j) {due due2 : Nat → Bool} : ∀ (i v : Nat) (u : rS) (s : mS), Br n u s → (t_num (bitR f n) due i v u).1 = (t_num (bitM true jf n) due2 i v s).1 ∧ Br n (t_num (bitR f n) due i v u).2 (t_num (bitM true jf n) due2 i v s).2
  | 0, _, _, _, h => ⟨rfl, h⟩
  | i + 1, v, u, s, h => by
    obtain ⟨b1, b2⟩ := Br_bit hf h (due i) (due2 i)
    rw [t_num, t_num, b1]
    exact rq_num hf i _ _ _ b2
theorem num_flt {due : Nat → Bool} : ∀ (i v : Nat) (u : rS), ¬ u.1 = 0 → (t_num (bitR f n) due i v u).2 = u
  | 0, _, _, _ => rfl
  | i + 1, v, u, h => by
    rw [t_num, bit_flt h]
    exact num_flt i _ u h
theorem rq_p5 (hf : ∀ j, j < n → f j = jf j) {f5 f7 g5 g7 : Nat → Bool} {u : rS} {s : mS} (h : Br n u s) : (t_p5 (bitR f n) f5 f7 u).1 = (t_p5 (bitM true jf n) g5 g7 s).1 ∧ Br n (t_p5 (bitR f n) f5 f7 u).2 (t_p5 (bitM true jf n) g5 g7 s).2 := by
  have b7 := rq_num hf (due := f5) (due2 := g5) 5 0 u s h
  unfold t_p5
  generalize t_num (bitR f n) f5 5 0 u = t at b7 ⊢
  generalize t_num (bitM true jf n) g5 5 0 s = r at b7 ⊢
  obtain ⟨b7, b8⟩ := b7
  by_cases c : t.1 < 31
  · rw [if_pos c, if_pos (show r.1 < 31 by rw [← b7]; exact c)]
    exact ⟨congrArg (fun z => 6 + z) b7, b8⟩
  · rw [if_neg c, if_neg (show ¬ r.1 < 31 by rw [← b7]; exact c)]
    have b9 := rq_num hf (due := f7) (due2 := g7) 7 0 _ _ b8
    generalize t_num (bitR f n) f7 7 0 t.2 = t2 at b9 ⊢
    generalize t_num (bitM true jf n) g7 7 0 r.2 = r2 at b9 ⊢
    exact ⟨congrArg (fun z => 37 + z) b9.1, b9.2⟩
theorem rq_p2 (hf : ∀ j, j < n → f j = jf j) {f2 f5 f7 g2 g5 g7 : Nat → Bool} {u : rS} {s : mS} (h : Br n u s) : (t_p2 (bitR f n) f2 f5 f7 u).1 = (t_p2 (bitM true jf n) g2 g5 g7 s).1 ∧ Br n (t_p2 (bitR f n) f2 f5 f7 u).2 (t_p2 (bitM true jf n) g2 g5 g7 s).2 := by
  have b7 := rq_num hf (due := f2) (due2 := g2) 2 0 u s h
  unfold t_p2
  generalize t_num (bitR f n) f2 2 0 u = t at b7 ⊢
  generalize t_num (bitM true jf n) g2 2 0 s = r at b7 ⊢
  obtain ⟨b7, b8⟩ := b7
  by_cases c : t.1 < 3
  · rw [if_pos c, if_pos (show r.1 < 3 by rw [← b7]; exact c)]
    exact ⟨congrArg (fun z => 3 + z) b7, b8⟩
  · rw [if_neg c, if_neg (show ¬ r.1 < 3 by rw [← b7]; exact c)]
    exact rq_p5 hf b8
theorem rq_pass (hf : ∀ j, j < n → f j = jf j) {d1 d2 e1 e2 : Bool} {f2 f5 f7 g2 g5 g7 : Nat → Bool} {u : rS} {s : mS} (h : Br n u s) : (t_pass (bitR f n) d1 d2 f2 f5 f7 u).1 = (t_pass (bitM true jf n) e1 e2 g2 g5 g7 s).1 ∧ Br n (t_pass (bitR f n) d1 d2 f2 f5 f7 u).2 (t_pass (bitM true jf n) e1 e2 g2 g5 g7 s).2 := by
  unfold t_pass
  obtain ⟨b1, b2⟩ := Br_bit hf h d1 e1
  by_cases c : (bitR f n u d1).1 = false
  · rw [if_pos c, if_pos (show (bitM true jf n s e1).1 = false by rw [← b1]; exact c)]
    exact ⟨rfl, b2⟩
  · rw [if_neg c, if_neg (show ¬ (bitM true jf n s e1).1 = false by rw [← b1]; exact c)]
    obtain ⟨b3, b4⟩ := Br_bit hf b2 d2 e2
    by_cases c2 : (bitR f n (bitR f n u d1).2 d2).1 = false
    · rw [if_pos c2, if_pos (show (bitM true jf n (bitM true jf n s e1).2 e2).1 = false by rw [← b3]; exact c2)]
      exact ⟨rfl, b4⟩
    · rw [if_neg c2, if_neg (show ¬ (bitM true jf n (bitM true jf n s e1).2 e2).1 = false by rw [← b3]; exact c2)]
      exact rq_p2 hf b4
theorem pass_flt {d1 d2 : Bool} {f2 f5 f7 : Nat → Bool} {u : rS} (h : ¬ u.1 = 0) : (t_pass (bitR f n) d1 d2 f2 f5 f7 u).2 = u := by
  unfold t_pass
  rw [bit_flt h]
  exact congrArg Prod.snd (if_pos rfl)
theorem pass_pos {β : Type} {bit : β → Bool → Bool × β} {d1 d2 : Bool} {f2 f5 f7 : Nat → Bool} {u : β} : 1 ≤ (t_pass bit d1 d2 f2 f5 f7 u).1 := by
  unfold t_pass
  split
  · show 1 ≤ 1; omega
  · split
    · show 1 ≤ 2; omega
    · unfold t_p2
      split
      · show 1 ≤ 3 + _; omega
      · unfold t_p5
        split
        · show 1 ≤ 6 + _; omega
        · show 1 ≤ 37 + _; omega
/-! lengths -/
theorem rq_wid (hf : ∀ j, j < n → f j = jf j) {due due2 : Nat → Bool} : ∀ (k w : Nat) (u : rS) (s : mS), w + k = 25 → u.1 = 0 → Br n u s →
    ((t_wid (bitR f n) due k w u).1 ≤ 24 ∧ Br n (t_wid (bitR f n) due k w u).2 (r_wid (bitM true jf n) true due2 (k + 15) w (r_fw true w s)).2 ∧ (t_wid (bitR f n) due k w u).1 = (r_wid (bitM true jf n) true due2 (k + 15) w (r_fw true w s)).1) ∨ ((t_wid (bitR f n) due k w u).1 = 25 ∧ (t_wid (bitR f n) due k w u).2.1 = 0 ∧ (r_wid (bitM true jf n) true due2 (k + 15) w (r_fw true w s)).2.1 = 3)
  | 0, w, u, s, hw, hu, hb => by
    right
    have e : r_fw true w s = (3, s.2) := by unfold r_fw; rw [if_pos ⟨rfl, by omega⟩]
    rw [e, r_wid_stop (bitM true jf n) (by show ¬ 3 = 0; omega), t_wid]
    exact ⟨by omega, hu, rfl⟩
  | k + 1, w, u, s, hw, hu, hb => by
    have e : r_fw true w s = s := by unfold r_fw; rw [if_neg (fun q => by have := q.2; omega)]
    obtain ⟨b1, b2⟩ := Br_bit hf hb (due w) (due2 w)
    rw [e, t_wid, if_pos (show w ≤ 24 by omega), show k + 1 + 15 = (k + 15) + 1 by omega, r_wid, if_pos (show s.1 = 0 by rw [← hb.1]; exact hu)]
    by_cases c : (bitR f n u (due w)).1 = true
    · rw [if_pos c, if_pos (show (bitM true jf n s (due2 w)).1 = true by rw [← b1]; exact c)]
      exact rq_wid hf k (w + 1) _ _ (by omega) (bit_tr c) b2
    · rw [if_neg c, if_neg (show ¬ (bitM true jf n s (due2 w)).1 = true by rw [← b1]; exact c)]
      exact Or.inl ⟨by show w ≤ 24; omega, b2, rfl⟩
theorem rq_len (hf : ∀ j, j < n → f j = jf j) {due dn due2 dn2 : Nat → Bool} {c b b2 : Nat} {gr jgr : Nat → Nat} {u : rS} {s : mS} (hu : u.1 = 0) (hb : Br n u s) (hg : gr b = jgr b2) :
    Br n (t_len (bitR f n) due dn c gr b u).2.2 (r_len (bitM true jf n) true due2 dn2 c jgr b2 s).2.2 ∧ ((t_len (bitR f n) due dn c gr b u).2.2.1 = 0 → (t_len (bitR f n) due dn c gr b u).1 = (r_len (bitM true jf n) true due2 dn2 c jgr b2 s).1 ∧ ∃ k, (t_len (bitR f n) due dn c gr b u).2.1 = va_up gr b k ∧ (r_len (bitM true jf n) true due2 dn2 c jgr b2 s).2.1 = va_up jgr b2 k) := by
  unfold t_len r_len
  rw [← hg]
  obtain ⟨w0, ew⟩ : ∃ z, z = gr b + m_pow c := ⟨_, rfl⟩
  rw [← ew]
  by_cases cw : w0 ≤ 25
  · have hr := rq_wid hf (due := due) (due2 := due2) (25 - w0) w0 u s (by omega) hu hb
    rw [show 25 - w0 + 15 = 40 - w0 by omega] at hr
    obtain ⟨T, eT⟩ : ∃ z, z = t_wid (bitR f n) due (25 - w0) w0 u := ⟨_, rfl⟩
    obtain ⟨R, eR⟩ : ∃ z, z = r_wid (bitM true jf n) true due2 (40 - w0) w0 (r_fw true w0 s) := ⟨_, rfl⟩
    rw [← eT, ← eR] at hr ⊢
    unfold r_l2
    rcases hr with ⟨r1, r2, r3⟩ | ⟨r1, r2, r3⟩
    · rw [if_pos r1]
      by_cases cf : T.2.1 = 0
      · rw [if_pos (by rw [← r2.1]; exact cf)]
        obtain ⟨m1, m2⟩ := rq_num hf (due := dn) (due2 := dn2) T.1 0 _ _ r2
        rw [r3] at m1 m2 ⊢
        exact ⟨m2, fun _ => ⟨m1, _, rfl, rfl⟩⟩
      · rw [if_neg (by rw [← r2.1]; exact cf)]
        have e9 := num_flt (f := f) (n := n) (due := dn) T.1 0 T.2 cf
        refine ⟨?_, fun q => absurd q ?_⟩
        · show Br n (t_num (bitR f n) dn T.1 0 T.2).2 R.2
          rw [e9]; exact r2
        · show ¬ (t_num (bitR f n) dn T.1 0 T.2).2.1 = 0
          rw [e9]; exact cf
    · rw [if_neg (by omega), if_neg (by rw [r3]; omega)]
      have e9 : (t_fl T.2 3).1 = 3 := by show m_fail T.2.1 3 = 3; unfold m_fail; rw [if_pos r2]
      refine ⟨⟨e9.trans r3.symm, fun q => absurd q (by rw [e9]; omega)⟩, fun q => absurd q (by show ¬ (t_fl T.2 3).1 = 0; rw [e9]; omega)⟩
  · have eT : t_wid (bitR f n) due (25 - w0) w0 u = (w0, u) := t_wid_stop _ (by omega)
    have e : r_fw true w0 s = (3, s.2) := by unfold r_fw; rw [if_pos ⟨rfl, by omega⟩]
    rw [eT, e, r_wid_stop (bitM true jf n) (by show ¬ 3 = 0; omega)]
    unfold r_l2
    rw [if_neg (show ¬ w0 ≤ 24 by omega), if_neg (show ¬ (3 : Nat) = 0 by omega)]
    have e9 : (t_fl u 3).1 = 3 := by show m_fail u.1 3 = 3; unfold m_fail; rw [if_pos hu]
    exact ⟨⟨e9, fun q => absurd q (by rw [e9]; omega)⟩, fun q => absurd q (by show ¬ (t_fl u 3).1 = 0; rw [e9]; omega)⟩
theorem wid_flt {due : Nat → Bool} : ∀ (k w : Nat) (u : rS), ¬ u.1 = 0 → (t_wid (bitR f n) due k w u).2 = u
  | 0, _, _, _ => rfl
  | k + 1, w, u, h => by
    rw [t_wid, bit_flt h]
    split
    · rw [if_neg (show ¬ (false, u).1 = true from fun q => Bool.noConfusion (show false = true from q))]
    · rfl
theorem len_flt {due dn : Nat → Bool} {c b : Nat} {gr : Nat → Nat} {u : rS} (h : ¬ u.1 = 0) : (t_len (bitR f n) due dn c gr b u).2.2.1 = u.1 := by
  unfold t_len
  have e := wid_flt (f := f) (n := n) (due := due) (25 - (gr b + m_pow c)) (gr b + m_pow c) u h
  split
  · show (t_num (bitR f n) dn (t_wid (bitR f n) due (25 - (gr b + m_pow c)) (gr b + m_pow c) u).1 0 (t_wid (bitR f n) due (25 - (gr b + m_pow c)) (gr b + m_pow c) u).2).2.1 = u.1
    rw [e, num_flt _ _ _ h]
  · show (t_fl (t_wid (bitR f n) due (25 - (gr b + m_pow c)) (gr b + m_pow c) u).2 3).1 = u.1
    rw [e]
    show m_fail u.1 3 = u.1
    unfold m_fail
    rw [if_neg h]
end RA

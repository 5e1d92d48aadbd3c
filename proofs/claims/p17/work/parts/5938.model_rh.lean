/-! writing leaves what was read in the reference as it is -/
def kpR (Z Z2 : kS) : Prop := Z2.2.2.2.1 = Z.2.2.2.1 ∧ Z2.2.2.2.2.1 = Z.2.2.2.2.1 ∧ Z2.2.2.2.2.2.1 = Z.2.2.2.2.2.1 ∧ Z2.2.2.2.2.2.2.1 = Z.2.2.2.2.2.2.1
theorem kp_tr {Z Z2 Z3 : kS} (h : kpR Z Z2) (h2 : kpR Z2 Z3) : kpR Z Z3 := ⟨h2.1.trans h.1, h2.2.1.trans h.2.1, h2.2.2.1.trans h.2.2.1, h2.2.2.2.trans h.2.2.2⟩
theorem kp_b3 {f jps jln : Nat → Nat} {z i b : Nat} {Z : kS} : kpR Z (r_b3 false f jps jln z i b Z) := by
  unfold r_b3 r_b4
  rw [r_w_f, r_w_f]
  exact ⟨rfl, rfl, rfl, rfl⟩
theorem kp_b2 {b y : Nat} {T : tX mS} {Z : kS} : kpR Z (r_b2 false b y T Z) := by
  refine ⟨?_, ?_, rfl, rfl⟩
  · show va_up Z.2.2.2.1 b (if false = true then T.1 else Z.2.2.2.1 b) = Z.2.2.2.1
    rw [if_neg (by decide), va_up_id]
  · show va_up Z.2.2.2.2.1 b (if false = true then some y else Z.2.2.2.2.1 b) = Z.2.2.2.2.1
    rw [if_neg (by decide), va_up_id]
theorem kp_blk {f jz jps jln : Nat → Nat} {z L base w h tr k y : Nat} {Z : kS} : kpR Z (r_blk false f jz jps jln z L base w h tr k y Z) := by
  unfold r_blk
  split
  · split
    · exact kp_tr (Z2 := r_s _ Z) ⟨rfl, rfl, rfl, rfl⟩ kp_b3
    · exact ⟨rfl, rfl, rfl, rfl⟩
  · split
    · exact kp_tr kp_b2 kp_b3
    · exact ⟨rfl, rfl, rfl, rfl⟩
theorem kp_go {step : Nat → kS → kS} (hs : ∀ j Z, kpR Z (step j Z)) : ∀ (m j : Nat) (Z : kS), kpR Z (r_go step m j Z)
  | 0, _, _ => ⟨rfl, rfl, rfl, rfl⟩
  | m + 1, j, Z => by
    rw [r_go]
    split
    · exact kp_tr (hs j Z) (kp_go hs m (j + 1) _)
    · exact ⟨rfl, rfl, rfl, rfl⟩
theorem kp_hd {f jz jps jln : Nat → Nat} {z L w h g p y : Nat} {Z : kS} : kpR Z (r_hd false f jz jps jln z L w h g p y Z) := by
  unfold r_hd r_h2
  split
  · exact kp_tr (Z2 := r_s (bitM false f z (r_beg false Z.2.2.2.2.2.2.2) (r_any jps y (r_fr w h g p) (m_bnd g * (w * h)))).2 Z) ⟨rfl, rfl, rfl, rfl⟩ (kp_go (fun j Z => kp_blk) _ _ _)
  · exact ⟨rfl, rfl, rfl, rfl⟩
theorem kp_it {f jz jps jln jw jh jro : Nat → Nat} {z L : Nat} {Z : kS} : ∀ k, kpR Z (r_it (r_pk false f jz jps jln jw jh jro z L) k Z)
  | 0 => ⟨rfl, rfl, rfl, rfl⟩
  | k + 1 => by
    rw [r_it]
    exact kp_tr (kp_it k) kp_hd
/-! the first layer with passes, as a number: 0 for none -/
def eF (o : Option Nat) : Nat := match o with
  | none => 0
  | some b => b + 1
def cF (ps : Nat → Nat) (L c : Nat) : Nat := if m_first ps c L < L then m_first ps c L + 1 else 0
theorem first_cg {ps ps2 : Nat → Nat} {L c c2 : Nat} (h : ∀ a, a < L → ps (c * L + a) = ps2 (c2 * L + a)) : m_first ps c L = m_first ps2 c2 L := by
  by_cases hz : ∀ a, a < L → ps2 (c2 * L + a) = 0
  · rw [m_first_no hz, m_first_no (fun a ha => by rw [h a ha]; exact hz a ha)]
  · have hex : ∃ b, b < L ∧ 0 < ps2 (c2 * L + b) ∧ ∀ a, a < b → ps2 (c2 * L + a) = 0 := by
      have go : ∀ k, k ≤ L → (∀ a, a < k → ps2 (c2 * L + a) = 0) ∨ ∃ b, b < L ∧ 0 < ps2 (c2 * L + b) ∧ ∀ a, a < b → ps2 (c2 * L + a) = 0 := by
        intro k
        induction k with
        | zero => intro _; exact Or.inl (fun a ha => absurd ha (Nat.not_lt_zero _))
        | succ k ih =>
          intro hk
          rcases ih (by omega) with w | w
          · by_cases c9 : ps2 (c2 * L + k) = 0
            · exact Or.inl (fun a ha => by
                by_cases e : a = k
                · rw [e]; exact c9
                · exact w a (by omega))
            · exact Or.inr ⟨k, by omega, by omega, w⟩
          · exact Or.inr w
      rcases go L (Nat.le_refl _) with w | w
      · exact absurd w hz
      · exact w
    obtain ⟨b, b1, b2, b3⟩ := hex
    rw [m_first_at (fun a ha => b3 a ha) b1 b2, m_first_at (fun a ha => by rw [h a (by omega)]; exact b3 a ha) b1 (by rw [h b b1]; exact b2)]
theorem cF_cg {ps ps2 : Nat → Nat} {L c c2 : Nat} (h : ∀ a, a < L → ps (c * L + a) = ps2 (c2 * L + a)) : cF ps L c = cF ps2 L c2 := by unfold cF; rw [first_cg h]
theorem cF_no {ps : Nat → Nat} {L c : Nat} (h : ∀ a, a < L → ps (c * L + a) = 0) : cF ps L c = 0 := by unfold cF; rw [m_first_no h, if_neg (Nat.lt_irrefl _)]
theorem cF_at {ps : Nat → Nat} {L c b : Nat} (hz : ∀ a, a < b → ps (c * L + a) = 0) (hb : b < L) (hp : 0 < ps (c * L + b)) : cF ps L c = b + 1 := by unfold cF; rw [m_first_at hz hb hp, if_pos hb]
theorem cF_room {ps : Nat → Nat} {L t y z k : Nat} : cF (m_room ps (t * L) (y * L) (z * L) (k * L)) L = m_room (cF ps L) t y z k := by
  funext B
  rw [room_eq]
  split
  · rename_i c
    exact cF_no (fun a ha => by rw [room_at ha, if_pos c])
  · rename_i c
    split
    · rename_i c2
      exact cF_cg (fun a ha => by rw [room_at ha, if_neg c, if_pos c2])
    · rename_i c2
      exact cF_cg (fun a ha => by rw [room_at ha, if_neg c, if_neg c2])
theorem put_eF {jrf : Nat → Option Nat} {g a n : Nat} (ha : a = 144 * g) (hn : n = 144) : jG1 g (fun m => eF (jrf m)) (fun m => eF (m_put (fun _ => none) a n jrf m)) := by
  intro B hB
  show eF (m_put (fun _ => none) a n jrf B) = _
  unfold m_put
  by_cases c : B / 144 = g
  · rw [if_pos c, if_pos (by omega)]; rfl
  · rw [if_neg c, if_neg (by omega)]
theorem gf_eF {ps : Nat → Nat} {L c : Nat} {o : Option Nat} (h : cF ps L c = eF o) : m_gf (m_first ps c L) L = oI o := by
  unfold cF at h
  unfold m_gf
  by_cases q : m_first ps c L < L
  · rw [if_pos q] at h ⊢
    cases o with
    | none => exact absurd h (Nat.succ_ne_zero _)
    | some b =>
      have e : m_first ps c L = b := Nat.succ.inj h
      rw [e]; rfl
  · rw [if_neg q] at h ⊢
    cases o with
    | none => rfl
    | some b => exact absurd h.symm (Nat.succ_ne_zero _)

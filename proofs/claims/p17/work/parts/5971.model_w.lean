/-! read() between two calls -/
section W29
variable {L Rz C pts : Nat} {bd pr wd ht sta jp jw jh tps tln tzs jps jln jz fo fe jpr : Nat → Nat} {X : lS}
theorem rd_all (hA : iA L Rz C bd pr wd ht sta jp jw jh) (hP : iP pts fo fe jpr) (hX : iX L Rz C pts pr jp jpr X) {bz msz : Nat} {f jby : Nat → Nat} (hB : iB bz msz f jby) (jen : Nat → Nat) (Y : lS) (rps rln rzs : Nat → Nat) (g : Nat → Option Nat) (vs1 vs2 gr : Nat → Nat) (bn : Nat → Bool) (lo1 : Nat → Nat) (dn1 : Nat → Bool) (lo2 : Nat → Nat) (dn2 : Nat → Bool) (ru rl : Nat) (jgr jlo : Nat → Nat) (jdo : Nat → Bool) (jrz : Nat → Nat) (jrf : Nat → Option Nat) (jrp jrl : Nat → Nat) (mle mno mla : Nat) (jdr : Nat → Nat) :
    ∀ k, k ≤ X.2.1 → (∀ j, j < k → (cRd Rz L C sta pr bd wd ht rps rln rzs f bz g vs1 vs2 X.2.2.1 gr bn lo1 dn1 lo2 dn2 ru rl j).2.2.2.2.2.2.2.2.2.1 = 0) →
      Er bz (cRd Rz L C sta pr bd wd ht rps rln rzs f bz g vs1 vs2 X.2.2.1 gr bn lo1 dn1 lo2 dn2 ru rl k).2.2.2.2.2.2.2.2.2 (mRd jby jz jps jln jw jh (co_list jpr jp L Rz C pts jen Y).2.2.2.1 msz L jgr jlo jdo jrz jrf jrp jrl mle mno mla jdr k).2.2.2.2.2.2.2 ∧ ((cRd Rz L C sta pr bd wd ht rps rln rzs f bz g vs1 vs2 X.2.2.1 gr bn lo1 dn1 lo2 dn2 ru rl k).2.2.2.2.2.2.2.2.2.1 = 0 → SQ sta pr bd wd ht (C * Rz) Rz L C (fun t a _ => cntP X.2.2.1 Rz t (a / bd t) k) (cRd Rz L C sta pr bd wd ht rps rln rzs f bz g vs1 vs2 X.2.2.1 gr bn lo1 dn1 lo2 dn2 ru rl k) (mRd jby jz jps jln jw jh (co_list jpr jp L Rz C pts jen Y).2.2.2.1 msz L jgr jlo jdo jrz jrf jrp jrl mle mno mla jdr k)) := by
  have e := hB.2.1
  subst e
  obtain ⟨-, -, hpl⟩ := iX_use hA hP hX jen Y
  exact it_rd hB.2.2.2.2 hA.2.2.2.1 hA.2.1 hA.2.2.1.2 hA.1.2 (fun s hs => ⟨(hA.2.2.2.2.2.2.1 s hs).2.1, (hA.2.2.2.2.2.2.1 s hs).2.2.1, (hA.2.2.2.2.2.2.1 s hs).2.2.2⟩) hpl ⟨rfl, fun _ => ⟨rfl, Nat.zero_le _⟩⟩ (SQ_0 hA.2.2.2.1 hA.2.1 hA.2.2.1.2 hA.1.2 (iA_most hA))
/-- what was read, behind a read() without a fault -/
theorem rd_ok {cnt : Nat → Nat → Nat → Nat} {T : hS rT} {Z : kS} (h : SQ sta pr bd wd ht (C * Rz) Rz L C cnt T Z) : tR sta pr bd wd ht T.1 T.2.1 T.2.2.1 Z.2.2.2.2.2.1 Z.2.2.2.2.2.2.1 Z.2.2.2.1 (C * Rz) Rz L ∧ tR sta pr bd wd ht T.1 T.2.1 (cF T.1 L) Z.2.2.2.2.2.1 Z.2.2.2.2.2.2.1 (fun m => eF (Z.2.2.2.2.1 m)) (C * Rz) Rz L ∧ oZ C Z.2.2.2.2.2.1 Z.2.2.2.2.2.2.1 Z.2.2.2.1 ∧ oZ C Z.2.2.2.2.2.1 Z.2.2.2.2.2.2.1 (fun m => eF (Z.2.2.2.2.1 m)) := by
  obtain ⟨h1, h2, h3⟩ := h
  refine ⟨fun s hs q hq e he => ?_, fun s hs q hq e he => ?_, fun B hB hC => ⟨(h2 B hB hC).1, (h2 B hB hC).2.2⟩, fun B hB hC => ⟨congrArg eF (h2 B hB hC).2.1, (h2 B hB hC).2.2⟩⟩
  · obtain ⟨o1, o2, -, -, -⟩ := h1.1 s hs q hq e he
    exact ⟨fun y hy => (o1 y hy).1, fun y hy => (o1 y hy).2, o2⟩
  · obtain ⟨o1, o2, -, -, -⟩ := h1.1 s hs q hq e he
    obtain ⟨-, f2, f3⟩ := h3 s hs q hq e he
    refine ⟨fun y hy => (o1 y hy).1, fun y hy => (o1 y hy).2, ?_⟩
    show cF T.1 L (cB sta wd ht s q e) = eF (Z.2.2.2.2.1 (mB Rz wd ht s q e))
    cases c : Z.2.2.2.2.1 (mB Rz wd ht s q e) with
    | none => exact cF_no (f2 c)
    | some b =>
      obtain ⟨g1, g2, g3⟩ := f3 b c
      exact cF_at g3 g1 g2
/-- and behind one with a fault: nothing -/
theorem rd_clear (hA : iA L Rz C bd pr wd ht sta jp jw jh) {a1 a2 a3 b1 b2 b3 : Nat → Nat} {b4 : Nat → Option Nat} : tR sta pr bd wd ht (m_fill 0 (m_most Rz * L) a1) (m_fill 0 (m_most Rz * L) a2) (m_fill 0 (m_most Rz) a3) (m_put (fun _ => 0) (8 * 0) (8 * 1728 - 8 * 0) b1) (m_put (fun _ => 0) (8 * 0) (8 * 1728 - 8 * 0) b2) (m_put (fun _ => 0) 0 (1728 - 0) b3) (C * Rz) Rz L ∧ tR sta pr bd wd ht (m_fill 0 (m_most Rz * L) a1) (m_fill 0 (m_most Rz * L) a2) (cF (m_fill 0 (m_most Rz * L) a1) L) (m_put (fun _ => 0) (8 * 0) (8 * 1728 - 8 * 0) b1) (m_put (fun _ => 0) (8 * 0) (8 * 1728 - 8 * 0) b2) (fun m => eF (m_put (fun _ => none) 0 (1728 - 0) b4 m)) (C * Rz) Rz L ∧ oZ C (m_put (fun _ => 0) (8 * 0) (8 * 1728 - 8 * 0) b1) (m_put (fun _ => 0) (8 * 0) (8 * 1728 - 8 * 0) b2) (m_put (fun _ => 0) 0 (1728 - 0) b3) ∧ oZ C (m_put (fun _ => 0) (8 * 0) (8 * 1728 - 8 * 0) b1) (m_put (fun _ => 0) (8 * 0) (8 * 1728 - 8 * 0) b2) (fun m => eF (m_put (fun _ => none) 0 (1728 - 0) b4 m)) := by
  have mr : ∀ (g : Nat → Nat) (b a : Nat), b < 1728 → a < 8 → m_put (fun _ => 0) (8 * 0) (8 * 1728 - 8 * 0) g (8 * b + a) = 0 := fun g b a hb ha => by unfold m_put; rw [if_pos (by omega)]
  have mz : ∀ (g : Nat → Nat) (b : Nat), b < 1728 → m_put (fun _ => 0) 0 (1728 - 0) g b = 0 := fun g b hb => by unfold m_put; rw [if_pos (by omega)]
  have mn : ∀ (b : Nat), b < 1728 → eF (m_put (fun _ => none) 0 (1728 - 0) b4 b) = 0 := fun b hb => by unfold m_put; rw [if_pos (by omega)]; rfl
  have hmo := iA_most hA
  have hL := hA.1.2
  have bl : ∀ s, s < C * Rz → ∀ q, q < pr s * bd s → ∀ e, e < wd s * ht s → cB sta wd ht s q e < m_most Rz ∧ mB Rz wd ht s q e < 1728 := fun s hs q hq e he => by
    have c1 := cB_lim hA.2.2.2.1 hs hq he
    have c2 := shp_le hA.2.2.2.1 (C * Rz) (s + 1) (by omega) (Nat.le_refl _)
    exact ⟨by omega, mB_12 hA.2.1 hA.2.2.1.2 hA.2.2.2.1 hs hq he⟩
  have fr : ∀ (g : Nat → Nat) (c y : Nat), c < m_most Rz → y < L → m_fill 0 (m_most Rz * L) g (c * L + y) = 0 := fun g c y hc hy => by unfold m_fill; rw [if_pos (m_in hc hy)]
  have fz : ∀ (g : Nat → Nat) (c : Nat), c < m_most Rz → m_fill 0 (m_most Rz) g c = 0 := fun g c hc => by unfold m_fill; rw [if_pos hc]
  refine ⟨fun s hs q hq e he => ?_, fun s hs q hq e he => ?_, fun B hB _ => ⟨mz _ B hB, fun y hy => ⟨mr _ B y hB hy, mr _ B y hB hy⟩⟩, fun B hB _ => ⟨mn B hB, fun y hy => ⟨mr _ B y hB hy, mr _ B y hB hy⟩⟩⟩
  · obtain ⟨c1, c2⟩ := bl s hs q hq e he
    exact ⟨fun y hy => by rw [fr _ _ _ c1 hy, mr _ _ _ c2 (by omega)], fun y hy => by rw [fr _ _ _ c1 hy, mr _ _ _ c2 (by omega)], by rw [fz _ _ c1, mz _ _ c2]⟩
  · obtain ⟨c1, c2⟩ := bl s hs q hq e he
    exact ⟨fun y hy => by rw [fr _ _ _ c1 hy, mr _ _ _ c2 (by omega)], fun y hy => by rw [fr _ _ _ c1 hy, mr _ _ _ c2 (by omega)], (cF_no (fun y hy => fr _ _ _ c1 hy)).trans (mn _ c2).symm⟩
end W29

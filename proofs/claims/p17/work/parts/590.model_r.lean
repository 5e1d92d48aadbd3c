/-! the packets of the two lists -/
theorem cnt_eq {pl ro : Nat → Nat} {Rz c r p : Nat} (hr : r < Rz) : ∀ k, (∀ j, j < k → (ro (4 * j + 1) = pl (j * 4 + 1) ∧ ro (4 * j + 2) = pl (j * 4 + 2) ∧ ro (4 * j + 3) = pl (j * 4 + 3)) ∧ pl (j * 4 + 1) < Rz) → cntP pl Rz (c * Rz + r) p k = cntR ro r c p k
  | 0, _ => rfl
  | k + 1, h => by
    obtain ⟨⟨e1, e2, e3⟩, l1⟩ := h k (by omega)
    rw [cntP, cntR, cnt_eq hr k (fun j hj => h j (by omega)), e1, e2, e3]
    by_cases c1 : pl (k * 4 + 1) = r ∧ pl (k * 4 + 2) = c ∧ pl (k * 4 + 3) = p
    · rw [if_pos c1, if_pos ⟨by rw [c1.1, c1.2.1], c1.2.2⟩]
    · rw [if_neg c1, if_neg (fun q => c1 (by obtain ⟨a1, a2⟩ := q_divm q.1 l1 hr; exact ⟨a2, a1, q.2⟩))]
theorem plR_of {pr : Nat → Nat} {L Rz C np : Nat} {X Y : lS} (hJ : oL pr L Rz C np X) (hq : qR L Rz C X Y) (hio : IO L Rz C Y) : plR pr X.2.2.1 Y.2.2.1 L Rz C X.2.1 := by
  have e := hq.1
  have hr : ∀ k, k < X.2.1 → ∀ j, j < 4 → X.2.2.1 (k * 4 + j) = Y.2.2.1 (4 * k + j) := fun k hk => hq.2.1 k (by rw [← e]; exact hk)
  refine ⟨fun k hk => ⟨⟨(hr k hk 0 (by omega)).symm, (hr k hk 1 (by omega)).symm, (hr k hk 2 (by omega)).symm, (hr k hk 3 (by omega)).symm⟩, hJ.2 k hk⟩, fun k hk => ?_⟩
  have l := hJ.2 k hk
  rw [cnt_eq (ro := Y.2.2.1) l.2.1 k (fun j hj => ⟨⟨(hr j (by omega) 1 (by omega)).symm, (hr j (by omega) 2 (by omega)).symm, (hr j (by omega) 3 (by omega)).symm⟩, (hJ.2 j (by omega)).2.1⟩)]
  have h2 := hio.2 k (by rw [← e]; exact hk)
  rw [hr k hk 0 (by omega), hr k hk 1 (by omega), hr k hk 2 (by omega), hr k hk 3 (by omega)]
  exact h2
/-! both write the same -/
abbrev wV1 (Rz L C : Nat) (sta pr bd wd ht tps : Nat → Nat) (g : Nat → Option Nat) (vs : Nat → Nat) : Nat → Nat := m_gath (m_sg sta pr bd wd ht (m_fill none (2 * m_most Rz) g) (C * Rz)) (m_sv (m_fv tps L) sta pr bd wd ht (m_fill 1000 (2 * sta (C * Rz)) vs) (C * Rz)) (2 * sta (C * Rz))
abbrev wV2 (Rz C : Nat) (sta pr bd wd ht tzs : Nat → Nat) (g : Nat → Option Nat) (vs : Nat → Nat) : Nat → Nat := m_gath (m_sg sta pr bd wd ht (m_fill none (2 * m_most Rz) g) (C * Rz)) (m_sv tzs sta pr bd wd ht (m_fill 1000 (2 * sta (C * Rz)) vs) (C * Rz)) (2 * sta (C * Rz))
abbrev wY0 (n : Nat) (sta tps tln tzs : Nat → Nat) (gr : Nat → Nat) (bn : Nat → Bool) (lo1 : Nat → Nat) (dn1 : Nat → Bool) (lo2 : Nat → Nat) (dn2 : Nat → Bool) (u : wS) : hS wT := (tps, tln, tzs, m_fill 3 (sta n) gr, m_fill false (sta n) bn, m_fill 0 (2 * sta n) lo1, m_fill false (2 * sta n) dn1, m_fill 0 (2 * sta n) lo2, m_fill false (2 * sta n) dn2, u)
abbrev rZ0 (jgr jlo : Nat → Nat) (jdo : Nat → Bool) (jrz : Nat → Nat) (jrf : Nat → Option Nat) (jrp jrl : Nat → Nat) (mle mno mla : Nat) (jdr : Nat → Nat) : kS := (m_fill 3 1728 jgr, m_fill 0 4896 jlo, m_fill false 4896 jdo, jrz, jrf, jrp, jrl, 0, 0, mle, mno, mla, 0, jdr)
section WM
variable {L Rz C N : Nat} {bd pr wd ht sta jp jw jh tps tln tzs jps jln jz pl jro : Nat → Nat}
set_option maxHeartbeats 4000000 in
theorem wr_key (hA : iA L Rz C bd pr wd ht sta jp jw jh) (hP : plR pr pl jro L Rz C N) (hT : tR sta pr bd wd ht tps tln tzs jps jln jz (C * Rz) Rz L) (p2 : ∀ j, tps j ≤ 164) (p3 : ∀ j, tln j < 2 ^ 16) (p4 : ∀ j, jz j ≤ 30) (p5 : ∀ j, tzs j ≤ 30)
    (ms : Bool) (row : Nat → Nat) (g : Nat → Option Nat) (v1 v2 gr lo1 lo2 : Nat → Nat) (bn dn1 dn2 : Nat → Bool) (f : Nat → Nat) (z : Nat) (jgr jlo : Nat → Nat) (jdo : Nat → Bool) (jrz : Nat → Nat) (jrf : Nat → Option Nat) (jrp jrl : Nat → Nat) (mle mno mla : Nat) (jdr : Nat → Nat) :
      ∀ k, k ≤ N → ((t_it (pkW ms (wV1 Rz L C sta pr bd wd ht tps g v1) (wV2 Rz C sta pr bd wd ht tzs g v2) pl sta bd wd ht L Rz) k (wY0 (C * Rz) sta tps tln tzs gr bn lo1 dn1 lo2 dn2 (0, row, 0, 0, 8))).1 = tps ∧ (t_it (pkW ms (wV1 Rz L C sta pr bd wd ht tps g v1) (wV2 Rz C sta pr bd wd ht tzs g v2) pl sta bd wd ht L Rz) k (wY0 (C * Rz) sta tps tln tzs gr bn lo1 dn1 lo2 dn2 (0, row, 0, 0, 8))).2.1 = tln ∧ (t_it (pkW ms (wV1 Rz L C sta pr bd wd ht tps g v1) (wV2 Rz C sta pr bd wd ht tzs g v2) pl sta bd wd ht L Rz) k (wY0 (C * Rz) sta tps tln tzs gr bn lo1 dn1 lo2 dn2 (0, row, 0, 0, 8))).2.2.1 = tzs) ∧ Be ms (t_it (pkW ms (wV1 Rz L C sta pr bd wd ht tps g v1) (wV2 Rz C sta pr bd wd ht tzs g v2) pl sta bd wd ht L Rz) k (wY0 (C * Rz) sta tps tln tzs gr bn lo1 dn1 lo2 dn2 (0, row, 0, 0, 8))).2.2.2.2.2.2.2.2.2 (r_it (r_pk false f jz jps jln jw jh jro z L) k (rZ0 jgr jlo jdo jrz jrf jrp jrl mle mno mla jdr)).2.2.2.2.2.2.2 := by
  have hL := hA.1
  have hR := hA.2.1
  have hC := hA.2.2.1
  have hsh := hA.2.2.2.1
  have hnone : ∀ j, j < 2 * m_most Rz → m_fill none (2 * m_most Rz) g j = none := fun j hj => by unfold m_fill; rw [if_pos hj]
  have w1 := vR_of (v := m_fv tps L) (vs := v1) (Rz := Rz) (L := L) (jz := jz) (jps := jps) (zr := false) hsh hA.2.2.2.2.1 (iA_most hA) hnone (fun s hs q hq e he => by
    unfold r_own
    rw [if_neg (by decide)]
    exact m_first_eq (hT s hs q hq e he).1) (fun j => Nat.le_trans (m_first_le tps j L) (by omega))
  have w2 := vR_of (v := tzs) (vs := v2) (Rz := Rz) (L := L) (jz := jz) (jps := jps) (zr := true) hsh hA.2.2.2.2.1 (iA_most hA) hnone (fun s hs q hq e he => by
    unfold r_own
    rw [if_pos rfl]
    exact (hT s hs q hq e he).2.2) (fun j => by have := p5 j; omega)
  obtain ⟨b1, b2, b3⟩ := HR_0 (V1 := wV1 Rz L C sta pr bd wd ht tps g v1) (V2 := wV2 Rz C sta pr bd wd ht tzs g v2) (tps := tps) (tln := tln) (tzs := tzs) (pl := pl) (L := L) (σ := ((0, row, 0, 0, 8) : wS)) (gr := gr) (lo1 := lo1) (lo2 := lo2) (bn := bn) (dn1 := dn1) (dn2 := dn2) (jgr := jgr) (jlo := jlo) (jdo := jdo) (jrz := jrz) (jrf := jrf) (jrp := jrp) (jrl := jrl) (mle := mle) (mno := mno) (mla := mla) (jdr := jdr) hsh hR hC.2
  have hBe : Be ms ((0, row, 0, 0, 8) : wS) ((0, 0, mle, mno, mla, 0, jdr) : mS) := ⟨rfl, rfl, rfl, rfl, by show 0 = min 0 6008; omega, fun _ j hj => absurd hj (Nat.not_lt_zero _)⟩
  have key := it_rel (ms := ms) (f := f) (z := z) (jw := jw) (jh := jh) hsh hR hC.2 (fun s hs => ⟨(hA.2.2.2.2.2.2.1 s hs).2.1, (hA.2.2.2.2.2.2.1 s hs).2.2.1, (hA.2.2.2.2.2.2.1 s hs).2.2.2⟩) hP hT p2 p3 p4 w1 w2 b1 hBe b2 b3
  exact fun k hk => ⟨(key k hk).1.1, (key k hk).2.1⟩
end WM
/-! bounds behind a whole walk of the reference -/
theorem gdE_it {rd : Bool} {f jz jps jln jw jh jro : Nat → Nat} {z L N : Nat} {Z : kS} (hL : L ≤ 8) (hpl : ∀ k, k < N → (4 * jro (4 * k + 2) + jro (4 * k + 1)) < 12 ∧ jro (4 * k + 3) ≤ 3 ∧ jro (4 * k) < L ∧ (1 ≤ jw (4 * jro (4 * k + 2) + jro (4 * k + 1)) ∧ jw (4 * jro (4 * k + 2) + jro (4 * k + 1)) ≤ 4) ∧ (1 ≤ jh (4 * jro (4 * k + 2) + jro (4 * k + 1)) ∧ jh (4 * jro (4 * k + 2) + jro (4 * k + 1)) ≤ 3)) (hf : ∀ j, f j < 256) (hl : ∀ j, jln j < 2 ^ 16) (hg : gdE rd z Z) : ∀ k, k ≤ N → gdE rd z (r_it (r_pk rd f jz jps jln jw jh jro z L) k Z)
  | 0, _ => hg
  | k + 1, hk => by
    rw [r_it]
    obtain ⟨a1, a2, a3, a4, a5⟩ := hpl k (by omega)
    exact gdE_pk a1 a2 (Nat.mul_le_mul a4.2 a5.2) hf hl (by omega) (gdE_it hL hpl hf hl hg k (by omega))

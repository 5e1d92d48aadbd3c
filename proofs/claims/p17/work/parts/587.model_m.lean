/-! all packets, written by both -/
section IT
variable {sta pr bd wd ht V1 V2 tps tln tzs jps jln jz jw jh pl jro : Nat → Nat} {C Rz L N : Nat}
def cntP (pl : Nat → Nat) (Rz s p : Nat) : Nat → Nat
  | 0 => 0
  | k + 1 => cntP pl Rz s p k + (if pl (k * 4 + 2) * Rz + pl (k * 4 + 1) = s ∧ pl (k * 4 + 3) = p then 1 else 0)
theorem gSl_at {c r : Nat} (hr : r < Rz) : gSl Rz (c * Rz + r) = 4 * c + r := by
  have h := m_dm (y := c) hr
  unfold gSl
  rw [h.1, h.2]
/-- the packets of the list, in both -/
def plR (pr pl jro : Nat → Nat) (L Rz C N : Nat) : Prop := (∀ k, k < N → (jro (4 * k) = pl (k * 4 + 0) ∧ jro (4 * k + 1) = pl (k * 4 + 1) ∧ jro (4 * k + 2) = pl (k * 4 + 2) ∧ jro (4 * k + 3) = pl (k * 4 + 3)) ∧ (pl (k * 4 + 0) < L ∧ pl (k * 4 + 1) < Rz ∧ pl (k * 4 + 2) < C ∧ pl (k * 4 + 3) < pr (pl (k * 4 + 2) * Rz + pl (k * 4 + 1)))) ∧ ∀ k, k < N → pl (k * 4 + 0) = cntP pl Rz (pl (k * 4 + 2) * Rz + pl (k * 4 + 1)) (pl (k * 4 + 3)) k
def bnR (sta pr bd wd ht tps pl : Nat → Nat) (n Rz L k : Nat) (bn : Nat → Bool) : Prop := ∀ s, s < n → ∀ q, q < pr s * bd s → ∀ e, e < wd s * ht s → bn (cB sta wd ht s q e) = decide (m_first tps (cB sta wd ht s q e) L < cntP pl Rz s (q / bd s) k)
set_option maxHeartbeats 4000000 in
theorem it_rel {ms : Bool} {f : Nat → Nat} {z : Nat} (h : shp sta pr bd wd ht (C * Rz)) (hR : 1 ≤ Rz ∧ Rz ≤ 4) (hC : C ≤ 3) (hsh : ∀ s, s < C * Rz → jw (gSl Rz s) = wd s ∧ jh (gSl Rz s) = ht s ∧ bd s = m_bnd (gSl Rz s)) (hP : plR pr pl jro L Rz C N) (hT : tR sta pr bd wd ht tps tln tzs jps jln jz (C * Rz) Rz L) (p2 : ∀ j, tps j ≤ 164) (p3 : ∀ j, tln j < 2 ^ 16) (p4 : ∀ j, jz j ≤ 30)
    (v1 : ∀ s, s < C * Rz → ∀ q, q < pr s * bd s → vR V1 false jz jps sta wd ht Rz L s q) (v2 : ∀ s, s < C * Rz → ∀ q, q < pr s * bd s → vR V2 true jz jps sta wd ht Rz L s q) {Y : hS wT} {Z : kS} (hH : HR sta pr bd wd ht V1 V2 tps tln tzs (C * Rz) Rz Y Z) (hb : Be ms Y.2.2.2.2.2.2.2.2.2 Z.2.2.2.2.2.2.2) (hl : LR sta pr bd wd ht (C * Rz) Y.2.2.2.2.1 Y.2.2.2.2.2.2.1) (hbn : bnR sta pr bd wd ht tps pl (C * Rz) Rz L 0 Y.2.2.2.2.1) :
    ∀ k, k ≤ N → HR sta pr bd wd ht V1 V2 tps tln tzs (C * Rz) Rz (t_it (pkW ms V1 V2 pl sta bd wd ht L Rz) k Y) (r_it (r_pk false f jz jps jln jw jh jro z L) k Z) ∧ Be ms (t_it (pkW ms V1 V2 pl sta bd wd ht L Rz) k Y).2.2.2.2.2.2.2.2.2 (r_it (r_pk false f jz jps jln jw jh jro z L) k Z).2.2.2.2.2.2.2 ∧ LR sta pr bd wd ht (C * Rz) (t_it (pkW ms V1 V2 pl sta bd wd ht L Rz) k Y).2.2.2.2.1 (t_it (pkW ms V1 V2 pl sta bd wd ht L Rz) k Y).2.2.2.2.2.2.1 ∧ bnR sta pr bd wd ht tps pl (C * Rz) Rz L k (t_it (pkW ms V1 V2 pl sta bd wd ht L Rz) k Y).2.2.2.2.1
  | 0, _ => ⟨hH, hb, hl, hbn⟩
  | k + 1, hk => by
    obtain ⟨i1, i2, i3, i4⟩ := it_rel (f := f) (z := z) h hR hC hsh hP hT p2 p3 p4 v1 v2 hH hb hl hbn k (by omega)
    rw [t_it, r_it]
    obtain ⟨Yk, eYk⟩ : ∃ x, x = t_it (pkW ms V1 V2 pl sta bd wd ht L Rz) k Y := ⟨_, rfl⟩
    obtain ⟨Zk, eZk⟩ : ∃ x, x = r_it (r_pk false f jz jps jln jw jh jro z L) k Z := ⟨_, rfl⟩
    rw [← eYk] at i1 i2 i3 i4 ⊢
    rw [← eZk] at i1 i2 ⊢
    obtain ⟨⟨⟨j0, j1, j2, j3⟩, l0, l1, l2, l3⟩, hO⟩ := (⟨hP.1 k (by omega), hP.2 k (by omega)⟩ : _ ∧ _)
    obtain ⟨s, es⟩ : ∃ x, x = pl (k * 4 + 2) * Rz + pl (k * 4 + 1) := ⟨_, rfl⟩
    obtain ⟨p, ep⟩ : ∃ x, x = pl (k * 4 + 3) := ⟨_, rfl⟩
    obtain ⟨y, ey⟩ : ∃ x, x = pl (k * 4 + 0) := ⟨_, rfl⟩
    have hg : 4 * jro (4 * k + 2) + jro (4 * k + 1) = gSl Rz s := by rw [j1, j2, es, gSl_at l1]
    rw [← es, ← ep] at l3
    rw [← ep, ← ey, ← es] at hO
    rw [← ey] at l0
    have hs : s < C * Rz := by rw [es]; exact m_in l2 l1
    obtain ⟨w1, w2, w3⟩ := hsh s hs
    have hz := sz_lim h hs
    have hbn2 : ∀ i, i < bd s * (wd s * ht s) → Yk.2.2.2.2.1 (sta s + p * bd s * (wd s * ht s) + i) = decide (m_first tps (sta s + p * bd s * (wd s * ht s) + i) L < y) := by
      intro i hi
      obtain ⟨k1, k2, k3, k4, k5, k6⟩ := blk_j (Rz := Rz) h hs l3 hi
      have := i4 s hs _ k1 _ k2
      rw [k3, k5, ← hO] at this
      exact this
    have hr := hd_rel (f := f) (z := z) h hR (fun s hs => gSl_lt hR hC hs) hs l3 l0 w3 hT p2 p3 p4 v1 v2 i1 i2 i3 hbn2 rfl rfl
    have eY : pkW ms V1 V2 pl sta bd wd ht L Rz k Yk = h_s (t_wend ms 8 (t_hd (bitW ms) (fpW ms) (flW ms) V1 V2 L y (sta s + p * bd s * (wd s * ht s)) (wd s * ht s) (bd s) (wd s) (ht s) Yk).2.2.2.2.2.2.2.2.2) (t_hd (bitW ms) (fpW ms) (flW ms) V1 V2 L y (sta s + p * bd s * (wd s * ht s)) (wd s * ht s) (bd s) (wd s) (ht s) Yk) := by
      unfold pkW t_pk
      rw [← es, ← ep, ← ey]
    have eZ : r_pk false f jz jps jln jw jh jro z L k Zk = r_hd false f jz jps jln z L (wd s) (ht s) (gSl Rz s) p y Zk := by
      unfold r_pk
      rw [hg, w1, w2, j3, j0, ← ep, ← ey]
    rw [eY, eZ]
    obtain ⟨r1, r2, r3, r4, r5⟩ := hr
    refine ⟨r1, r2, r3, ?_⟩
    intro t ht1 q hq e he
    show (t_hd (bitW ms) (fpW ms) (flW ms) V1 V2 L y (sta s + p * bd s * (wd s * ht s)) (wd s * ht s) (bd s) (wd s) (ht s) Yk).2.2.2.2.1 (cB sta wd ht t q e) = _
    rw [cntP, ← es, ← ep]
    by_cases c : s = t ∧ p = q / bd t
    · obtain ⟨c1, c2⟩ := c
      subst c1
      rw [if_pos ⟨rfl, c2⟩, ← c2, ← hO]
      have hq2 := qb_lim h hs hq
      have h4 := h.2 s hs
      have hm := Nat.mod_lt q (show 0 < bd s by omega)
      have hi : q % bd s * (wd s * ht s) + e < bd s * (wd s * ht s) := m_in hm he
      have eb : cB sta wd ht s q e = sta s + p * bd s * (wd s * ht s) + (q % bd s * (wd s * ht s) + e) := by
        have e1 : q = p * bd s + q % bd s := by rw [c2, Nat.mul_comm]; exact hq2.2.2.symm
        have e2 : q * (wd s * ht s) = p * bd s * (wd s * ht s) + q % bd s * (wd s * ht s) := by
          rw [← Nat.add_mul, ← e1]
        unfold cB
        rw [e2]
        omega
      rw [eb]
      exact r4 _ hi
    · rw [if_neg c, Nat.add_zero, r5 _ (fun i hi z9 => ?_)]
      · exact i4 t ht1 q hq e he
      · obtain ⟨k1, k2, k3, k4, k5, k6⟩ := blk_j (Rz := Rz) h hs l3 hi
        rw [← k3] at z9
        obtain ⟨x1, x2, x3⟩ := cB_inj h ht1 hq he hs k1 k2 z9
        subst x1
        exact c ⟨rfl, by rw [x2, k5]⟩
theorem HR_0 {σ : wS} {gr lo1 lo2 jgr jlo jrz jrp jrl jdr : Nat → Nat} {bn dn1 dn2 jdo : Nat → Bool} {jrf : Nat → Option Nat} {mle mno mla : Nat} (h : shp sta pr bd wd ht (C * Rz)) (hR : 1 ≤ Rz ∧ Rz ≤ 4) (hC : C ≤ 3) : HR sta pr bd wd ht V1 V2 tps tln tzs (C * Rz) Rz ((tps, tln, tzs, m_fill 3 (sta (C * Rz)) gr, m_fill false (sta (C * Rz)) bn, m_fill 0 (2 * sta (C * Rz)) lo1, m_fill false (2 * sta (C * Rz)) dn1, m_fill 0 (2 * sta (C * Rz)) lo2, m_fill false (2 * sta (C * Rz)) dn2, σ) : hS wT) ((m_fill 3 1728 jgr, m_fill 0 4896 jlo, m_fill false 4896 jdo, jrz, jrf, jrp, jrl, 0, 0, mle, mno, mla, 0, jdr) : kS) ∧ LR sta pr bd wd ht (C * Rz) (m_fill false (sta (C * Rz)) bn) (m_fill false (2 * sta (C * Rz)) dn1) ∧ bnR sta pr bd wd ht tps pl (C * Rz) Rz L 0 (m_fill false (sta (C * Rz)) bn) := by
  have fit : ∀ s, s < C * Rz → ∀ q, q < pr s * bd s → q * (wd s * ht s) + wd s * ht s ≤ pr s * bd s * (wd s * ht s) ∧ sta s + pr s * bd s * (wd s * ht s) ≤ sta (C * Rz) := by
    intro s hs q hq
    have h1 := h.1 s hs
    have h2 := shp_le h (C * Rz) (s + 1) (by omega) (Nat.le_refl _)
    have := Nat.mul_le_mul_right (wd s * ht s) (show q + 1 ≤ pr s * bd s by omega)
    rw [show (q + 1) * (wd s * ht s) = q * (wd s * ht s) + wd s * ht s from Nat.succ_mul _ _] at this
    exact ⟨this, by omega⟩
  have gl : ∀ s, s < C * Rz → gSl Rz s < 12 := fun s hs => gSl_lt hR hC hs
  have nd : ∀ (V lo jl : Nat → Nat) (dn jd : Nat → Bool) (off : Nat), off ≤ 2448 → nR sta pr bd wd ht V (C * Rz) Rz off (m_fill 0 (2 * sta (C * Rz)) lo) (m_fill false (2 * sta (C * Rz)) dn) (m_fill 0 4896 jl) (m_fill false 4896 jd) := by
    intro V lo jl dn jd off hoff s hs q hq e he l hl
    have h2 := h.2 s hs
    have f1 := fit s hs q hq
    have r2 := r_node_2 (wd s) (by omega) (ht s) (by omega) e he l hl
    have r17 := r_node_lt (wd s) (by omega) (ht s) (by omega) e he l hl
    have t1 := tB_lt (Rz := Rz) h hs hq (gl s hs)
    have a1 : aB sta wd ht s q + r_node (wd s) (ht s) e l < 2 * sta (C * Rz) := by unfold aB; omega
    have a2 : tB Rz bd s q + off + r_node (wd s) (ht s) e l < 4896 := by omega
    unfold ndR m_fill
    rw [if_pos a1, if_pos a1, if_pos a2, if_pos a2]
    exact ⟨rfl, rfl, Nat.zero_le _, fun q => Bool.noConfusion q⟩
  have bl : ∀ s, s < C * Rz → ∀ q, q < pr s * bd s → ∀ e, e < wd s * ht s → cB sta wd ht s q e < sta (C * Rz) ∧ mB Rz wd ht s q e < 1728 := by
    intro s hs q hq e he
    have f1 := fit s hs q hq
    have hz := sz_lim h hs
    have := gl s hs
    constructor
    · unfold cB; omega
    · unfold mB; omega
  refine ⟨⟨⟨rfl, rfl, rfl⟩, ?_, nd _ _ _ _ _ 0 (by omega), nd _ _ _ _ _ 2448 (by omega)⟩, ?_, ?_⟩
  · intro s hs q hq e he
    obtain ⟨b1, b2⟩ := bl s hs q hq e he
    show m_fill 3 (sta (C * Rz)) gr (cB sta wd ht s q e) = m_fill 3 1728 jgr (mB Rz wd ht s q e) ∧ m_fill 3 (sta (C * Rz)) gr (cB sta wd ht s q e) ≤ 16
    unfold m_fill
    rw [if_pos b1, if_pos b2]
    exact ⟨rfl, by omega⟩
  · intro s hs q hq e he _
    have f1 := fit s hs q hq
    unfold m_fill
    rw [if_pos (by unfold aB; omega)]
  · intro s hs q hq e he
    obtain ⟨b1, b2⟩ := bl s hs q hq e he
    unfold m_fill
    rw [if_pos b1, cntP, decide_eq_false (Nat.not_lt_zero _)]
end IT

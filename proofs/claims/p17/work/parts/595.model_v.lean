/-! the walks over the heads between two calls -/
theorem cp_at {g f : Nat → Nat} {j : Nat} : ∀ n, j < n → m_cp g f n j = g j
  | 0, h => absurd h (Nat.not_lt_zero _)
  | n + 1, h => by
    rw [m_cp]
    by_cases c : j = n
    · subst c; rw [va_up_self]
    · rw [va_up_ne _ _ c]; exact cp_at n (by omega)
theorem first_bad (p : Nat → Bool) (h0 : p 0 = true) : ∀ N, (∀ j, j ≤ N → p j = true) ∨ ∃ k, k < N ∧ (∀ j, j ≤ k → p j = true) ∧ p (k + 1) = false
  | 0 => Or.inl (fun j hj => by rw [show j = 0 by omega]; exact h0)
  | N + 1 => by
    rcases first_bad p h0 N with h | ⟨k, h1, h2, h3⟩
    · cases e : p (N + 1) with
      | true => exact Or.inl (fun j hj => by
          by_cases c : j = N + 1
          · rw [c]; exact e
          · exact h j (by omega))
      | false => exact Or.inr ⟨N, by omega, h, e⟩
    · exact Or.inr ⟨k, by omega, h2, h3⟩
theorem first_flt (v : Nat → Nat) (h0 : v 0 = 0) (N : Nat) : (∀ j, j ≤ N → v j = 0) ∨ ∃ k, k < N ∧ (∀ j, j ≤ k → v j = 0) ∧ ¬ v (k + 1) = 0 := by
  rcases first_bad (fun j => decide (v j = 0)) (decide_eq_true h0) N with h | ⟨k, h1, h2, h3⟩
  · exact Or.inl (fun j hj => of_decide_eq_true (h j hj))
  · exact Or.inr ⟨k, h1, fun j hj => of_decide_eq_true (h2 j hj), of_decide_eq_false h3⟩
section VW
variable {L Rz C pts : Nat} {bd pr wd ht sta jp jw jh tps tln tzs jps jln jz fo fe jpr : Nat → Nat} {X : lS}
theorem iX_use (hA : iA L Rz C bd pr wd ht sta jp jw jh) (hP : iP pts fo fe jpr) (hX : iX L Rz C pts pr jp jpr X) (jen : Nat → Nat) (Y : lS) : X.2.1 = (co_list jpr jp L Rz C pts jen Y).2.2.1 ∧ (co_list jpr jp L Rz C pts jen Y).2.2.1 ≤ 384 ∧ plR pr X.2.2.1 (co_list jpr jp L Rz C pts jen Y).2.2.2.1 L Rz C X.2.1 := by
  have e := (hX.2 jen Y).1
  refine ⟨e, ?_, plR_of hX.1 (hX.2 jen Y) (IO_list hA.1 hA.2.1 hA.2.2.1 (iP_pa hP))⟩
  rw [← e]
  have h1 := oL_le hX.1
  have h2 : L * Rz ≤ 8 * 4 := Nat.mul_le_mul hA.1.2 hA.2.1.2
  omega
theorem iX_pl (hA : iA L Rz C bd pr wd ht sta jp jw jh) (hP : iP pts fo fe jpr) (hX : iX L Rz C pts pr jp jpr X) (jen : Nat → Nat) (Y : lS) : ∀ k, k < (co_list jpr jp L Rz C pts jen Y).2.2.1 → (4 * (co_list jpr jp L Rz C pts jen Y).2.2.2.1 (4 * k + 2) + (co_list jpr jp L Rz C pts jen Y).2.2.2.1 (4 * k + 1)) < 12 ∧ (co_list jpr jp L Rz C pts jen Y).2.2.2.1 (4 * k + 3) ≤ 3 ∧ (co_list jpr jp L Rz C pts jen Y).2.2.2.1 (4 * k) < L ∧ (1 ≤ jw (4 * (co_list jpr jp L Rz C pts jen Y).2.2.2.1 (4 * k + 2) + (co_list jpr jp L Rz C pts jen Y).2.2.2.1 (4 * k + 1)) ∧ jw (4 * (co_list jpr jp L Rz C pts jen Y).2.2.2.1 (4 * k + 2) + (co_list jpr jp L Rz C pts jen Y).2.2.2.1 (4 * k + 1)) ≤ 4) ∧ (1 ≤ jh (4 * (co_list jpr jp L Rz C pts jen Y).2.2.2.1 (4 * k + 2) + (co_list jpr jp L Rz C pts jen Y).2.2.2.1 (4 * k + 1)) ∧ jh (4 * (co_list jpr jp L Rz C pts jen Y).2.2.2.1 (4 * k + 2) + (co_list jpr jp L Rz C pts jen Y).2.2.2.1 (4 * k + 1)) ≤ 3) := by
  obtain ⟨e, h384, hpl⟩ := iX_use hA hP hX jen Y
  intro k hk
  obtain ⟨⟨j0, j1, j2, j3⟩, l0, l1, l2, l3⟩ := hpl.1 k (by rw [e]; exact hk)
  have hp4 := hA.2.2.2.2.2.1 (X.2.2.1 (k * 4 + 2) * Rz + X.2.2.1 (k * 4 + 1))
  have hC := hA.2.2.1.2
  have hR := hA.2.1.2
  have h12 : 4 * (co_list jpr jp L Rz C pts jen Y).2.2.2.1 (4 * k + 2) + (co_list jpr jp L Rz C pts jen Y).2.2.2.1 (4 * k + 1) < 12 := by rw [j1, j2]; omega
  obtain ⟨-, g2, g3⟩ := hA.2.2.2.2.2.2.2.1 _ h12
  exact ⟨h12, by rw [j3]; omega, by rw [j0]; exact l0, g2, g3⟩
/-- bounds behind the writer's walk -/
theorem wr_bd (hA : iA L Rz C bd pr wd ht sta jp jw jh) (hJ : oL pr L Rz C (L * Rz * 3 * 4) X) (hT : iT L Rz C bd pr wd ht sta tps tln tzs jps jln jz) {ms : Bool} {V1 V2 row gr lo1 lo2 : Nat → Nat} {bn dn1 dn2 : Nat → Bool} (hl1 : ∀ j, lo1 j < 2 ^ 30) (hl2 : ∀ j, lo2 j < 2 ^ 30) :
    gdV (sta (C * Rz)) 0 (t_it (pkW ms V1 V2 X.2.2.1 sta bd wd ht L Rz) X.2.1 (wY0 (C * Rz) sta tps tln tzs gr bn lo1 dn1 lo2 dn2 (0, row, 0, 0, 8))) := by
  have h1 := oL_le hJ
  have h2 : L * Rz ≤ 8 * 4 := Nat.mul_le_mul hA.1.2 hA.2.1.2
  obtain ⟨-, -, t3, t4, t5, -, -, -⟩ := hT
  refine gdV_it (C := C) (M := X.2.1) hA.2.2.2.1 rfl (Nat.le_refl _) hA.1.2 hJ.2 X.2.1 0 (Nat.le_refl _) ?_
  exact ⟨m_fill_lt (by omega) hl1, m_fill_lt (by omega) hl2, t3, t4, m_fill_le (by omega), ⟨by show 1 ≤ 8; omega, by show 8 ≤ 8; omega, by show 0 < 256; omega, by show 0 + (0 + 10809 * X.2.1) < 2 ^ 30; omega, by show 0 < 4; omega⟩, fun j => by have := t5 j; show tzs j < 2 ^ 30; omega⟩
theorem g_in (hA : iA L Rz C bd pr wd ht sta jp jw jh) {g : Nat → Option Nat} (hg : ∀ i p, g i = some p → p < 2 * m_most Rz) : ∀ i p, m_sg sta pr bd wd ht (m_fill none (2 * m_most Rz) g) (C * Rz) i = some p → p < 2 * m_most Rz := by
  have h1 := iA_most hA
  refine m_sg_in hA.2.2.2.1 (fun i p hp => ?_) (by omega) (C * Rz) (Nat.le_refl _)
  unfold m_fill at hp
  split at hp
  · cases hp
  · exact hg i p hp
theorem v_lt {g : Nat → Option Nat} {v vs : Nat → Nat} {n : Nat} (hv : ∀ j, v j < 2 ^ 30) (h : ∀ j, vs j < 2 ^ 30) : ∀ j, m_gath g (m_sv v sta pr bd wd ht (m_fill 1000 (2 * sta n) vs) n) (2 * sta n) j < 2 ^ 30 := m_gath_lt (m_sv_lt hv (m_fill_lt (by omega) h) _) _
theorem fv_lt (hL : L ≤ 8) : ∀ j, m_fv tps L j < 2 ^ 30 := m_fv_lt (by omega)
/-- bounds behind the reference's walk -/
theorem rf_bd (hA : iA L Rz C bd pr wd ht sta jp jw jh) (hP : iP pts fo fe jpr) (hX : iX L Rz C pts pr jp jpr X) (hT : iT L Rz C bd pr wd ht sta tps tln tzs jps jln jz) (jen : Nat → Nat) (Y : lS) {rd : Bool} {f jgr jlo jrz jrp jrl jdr : Nat → Nat} {jdo : Nat → Bool} {jrf : Nat → Option Nat} {z mle mno mla : Nat} (hf : ∀ j, f j < 256) (hlo : ∀ j, jlo j < 2 ^ 20) (hrf : ∀ j k, jrf j = some k → k < 8) (hdr : ∀ j, jdr j < 256) :
    ∀ k, k ≤ (co_list jpr jp L Rz C pts jen Y).2.2.1 → gdE rd z (r_it (r_pk rd f jz jps jln jw jh (co_list jpr jp L Rz C pts jen Y).2.2.2.1 z L) k (rZ0 jgr jlo jdo jrz jrf jrp jrl mle mno mla jdr)) :=
  gdE_it hA.1.2 (iX_pl hA hP hX jen Y) hf hT.2.2.2.2.2.2.1 (gdE_0 hlo hrf hdr)
/-- both walks of write() against the reference's -/
theorem wr_both (hA : iA L Rz C bd pr wd ht sta jp jw jh) (hP : iP pts fo fe jpr) (hX : iX L Rz C pts pr jp jpr X) (hT : iT L Rz C bd pr wd ht sta tps tln tzs jps jln jz) (jen : Nat → Nat) (Y : lS) (ms : Bool) (row : Nat → Nat) (g : Nat → Option Nat) (v1 v2 gr lo1 lo2 : Nat → Nat) (bn dn1 dn2 : Nat → Bool) (f : Nat → Nat) (z : Nat) (jgr jlo : Nat → Nat) (jdo : Nat → Bool) (jrz : Nat → Nat) (jrf : Nat → Option Nat) (jrp jrl : Nat → Nat) (mle mno mla : Nat) (jdr : Nat → Nat) {T : hS wT} {D : kS}
    (eT : T = t_it (pkW ms (wV1 Rz L C sta pr bd wd ht tps g v1) (wV2 Rz C sta pr bd wd ht tzs g v2) X.2.2.1 sta bd wd ht L Rz) X.2.1 (wY0 (C * Rz) sta tps tln tzs gr bn lo1 dn1 lo2 dn2 (0, row, 0, 0, 8)))
    (eD : D = r_it (r_pk false f jz jps jln jw jh (co_list jpr jp L Rz C pts jen Y).2.2.2.1 z L) (co_list jpr jp L Rz C pts jen Y).2.2.1 (rZ0 jgr jlo jdo jrz jrf jrp jrl mle mno mla jdr)) :
    (∀ j, 1 ≤ j → j ≤ X.2.1 → (t_it (pkW ms (wV1 Rz L C sta pr bd wd ht tps g v1) (wV2 Rz C sta pr bd wd ht tzs g v2) X.2.2.1 sta bd wd ht L Rz) j (wY0 (C * Rz) sta tps tln tzs gr bn lo1 dn1 lo2 dn2 (0, row, 0, 0, 8))).2.2.2.2.2.2.2.2.2.1 = 0) ∧ (T.1 = tps ∧ T.2.1 = tln ∧ T.2.2.1 = tzs) ∧ T.2.2.2.2.2.2.2.2.2.1 = 0 ∧ D.2.2.2.2.2.2.2.2.2.2.2.2.1 = min T.2.2.2.2.2.2.2.2.2.2.2.1 6008 ∧ (ms = false → ∀ j, j < T.2.2.2.2.2.2.2.2.2.2.2.1 → j < 6000 → T.2.2.2.2.2.2.2.2.2.2.1 j = D.2.2.2.2.2.2.2.2.2.2.2.2.2 j) := by
  obtain ⟨e, h384, hpl⟩ := iX_use hA hP hX jen Y
  have key := wr_key hA hpl hT.1 hT.2.2.1 hT.2.2.2.1 hT.2.2.2.2.2.2.2 hT.2.2.2.2.1 ms row g v1 v2 gr lo1 lo2 bn dn1 dn2 f z jgr jlo jdo jrz jrf jrp jrl mle mno mla jdr
  have kN := key X.2.1 (Nat.le_refl _)
  rw [← eT] at kN
  rw [e, ← eD] at kN
  exact ⟨fun j _ hj => (key j hj).2.1, kN.1, kN.2.1, kN.2.2.2.2.2.1, kN.2.2.2.2.2.2⟩
end VW
theorem by_bits (x : BitVec 64) (n : Nat) (hn : n ≤ 56) : (BitVec.signExtend 32 (x >>> n) &&& 255#32) = BitVec.signExtend 32 (BitVec.sshiftRight x n &&& 255#64) := by
  rw [BitVec.signExtend_eq_setWidth_of_le _ (by omega), BitVec.signExtend_eq_setWidth_of_le _ (by omega)]
  apply BitVec.eq_of_getLsbD_eq
  intro j hj
  have h255 : ∀ j, j < 32 → (255#32).getLsbD j = (255#64).getLsbD j ∧ ((255#32).getLsbD j = true → j < 8) := by decide
  obtain ⟨a1, a2⟩ := h255 j hj
  rw [BitVec.getLsbD_and, BitVec.getLsbD_setWidth, BitVec.getLsbD_setWidth, BitVec.getLsbD_and, BitVec.getLsbD_ushiftRight, BitVec.getLsbD_sshiftRight, ← a1]
  cases e : (255#32).getLsbD j with
  | false => simp
  | true =>
    have := a2 e
    simp [hj, show n + j < 64 by omega, show ¬ 64 ≤ j by omega]
theorem by_same (v : Int64) : ∀ i, i < 8 → m_by v i = m_by2 v i := by
  intro i hi
  unfold m_by m_by2
  rcases (show i = 0 ∨ i = 1 ∨ i = 2 ∨ i = 3 ∨ i = 4 ∨ i = 5 ∨ i = 6 ∨ i = 7 by omega) with q | q | q | q | q | q | q | q <;> subst q
  · exact congrArg BitVec.toNat (by_bits v.toBitVec 0 (by omega))
  · exact congrArg BitVec.toNat (by_bits v.toBitVec 8 (by omega))
  · exact congrArg BitVec.toNat (by_bits v.toBitVec 16 (by omega))
  · exact congrArg BitVec.toNat (by_bits v.toBitVec 24 (by omega))
  · exact congrArg BitVec.toNat (by_bits v.toBitVec 32 (by omega))
  · exact congrArg BitVec.toNat (by_bits v.toBitVec 40 (by omega))
  · exact congrArg BitVec.toNat (by_bits v.toBitVec 48 (by omega))
  · exact congrArg BitVec.toNat (by_bits v.toBitVec 56 (by omega))
theorem by2_lt (v : Int64) {i : Nat} (hi : i < 8) : m_by2 v i < 256 := by rw [← by_same v i hi]; exact m_by_lt v i
theorem iB_feed {bz msz : Nat} {f jby : Nat → Nat} (h : iB bz msz f jby) (v : Int64) : ∀ n, n ≤ 8 → (∀ j, m_feed f bz v n j < 256) ∧ (∀ j, m_feed2 jby msz v n j < 256) ∧ ∀ j, j < bz + n → m_feed f bz v n j = m_feed2 jby msz v n j
  | 0, _ => ⟨h.2.2.1, h.2.2.2.1, h.2.2.2.2⟩
  | n + 1, hn => by
    obtain ⟨i1, i2, i3⟩ := iB_feed h v n (by omega)
    refine ⟨m_up_lt9 i1 (m_by_lt v n), m_up_lt9 i2 (by2_lt v (by omega)), fun j hj => ?_⟩
    rw [m_feed, m_feed2, h.2.1, by_same v n (by omega)]
    rw [h.2.1] at i3
    by_cases c : j = bz + n
    · subst c; rw [va_up_self, va_up_self]
    · rw [va_up_ne _ _ c, va_up_ne _ _ c]; exact i3 j (by omega)

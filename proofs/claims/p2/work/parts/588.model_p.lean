/-! what holds between two calls: the picture -/
def iA (L Rz C : Nat) (bd pr wd ht sta jp jw jh : Nat → Nat) : Prop := (1 ≤ L ∧ L ≤ 8) ∧ (1 ≤ Rz ∧ Rz ≤ 4) ∧ (1 ≤ C ∧ C ≤ 3) ∧ shp sta pr bd wd ht (C * Rz) ∧ sta 0 = 0 ∧ (∀ j, pr j ≤ 4) ∧ (∀ s, s < C * Rz → jp (gSl Rz s) = pr s ∧ jw (gSl Rz s) = wd s ∧ jh (gSl Rz s) = ht s ∧ bd s = m_bnd (gSl Rz s)) ∧ (∀ g, g < 12 → (1 ≤ jp g ∧ jp g ≤ 4) ∧ (1 ≤ jw g ∧ jw g ≤ 4) ∧ (1 ≤ jh g ∧ jh g ≤ 3)) ∧ (∀ j, jp j ≤ 4) ∧ (∀ g, g < 12 → C ≤ g / 4 → jp g = 1 ∧ jw g = 1 ∧ jh g = 1) ∧ sta (C * Rz) ≤ 400 + (C - 1) * (1 + 3 * (Rz - 1))
section IA
variable {L Rz C : Nat} {bd pr wd ht sta jp jw jh : Nat → Nat}
theorem iA_at (h : iA L Rz C bd pr wd ht sta jp jw jh) {a b : Nat} (ha : a < C) (hb : b < Rz) : jp (4 * a + b) = pr (a * Rz + b) ∧ jw (4 * a + b) = wd (a * Rz + b) ∧ jh (4 * a + b) = ht (a * Rz + b) ∧ bd (a * Rz + b) = m_bnd (4 * a + b) := by
  have := h.2.2.2.2.2.2.1 (a * Rz + b) (m_in ha hb)
  rw [gSl_at hb] at this
  exact this
theorem m_bnd_at {a b : Nat} (hb : b < 4) : m_bnd (4 * a + b) = if b = 0 then 1 else 3 := by
  unfold m_bnd
  rw [show (4 * a + b) % 4 = b by omega]
theorem row_le (h : iA L Rz C bd pr wd ht sta jp jw jh) {a : Nat} (ha : a < C) : ∀ r, r ≤ Rz → sta (a * Rz + r) ≤ sta (a * Rz) + (if r = 0 then 0 else (1 + 3 * (r - 1)) * 48)
  | 0, _ => by rw [if_pos rfl]; exact Nat.le_refl _
  | r + 1, hr => by
    have ih := row_le h ha r (by omega)
    have hs : a * Rz + r < C * Rz := m_in ha (by omega)
    have h1 := h.2.2.2.1.1 _ hs
    have h2 := h.2.2.2.1.2 _ hs
    have h3 := (iA_at h ha (show r < Rz by omega)).2.2.2
    rw [m_bnd_at (by have := h.2.1.2; omega)] at h3
    have e1 : wd (a * Rz + r) * ht (a * Rz + r) ≤ 4 * 3 := Nat.mul_le_mul h2.2.2.1.2 h2.2.2.2.2
    have e2 : pr (a * Rz + r) * bd (a * Rz + r) * (wd (a * Rz + r) * ht (a * Rz + r)) ≤ 4 * bd (a * Rz + r) * (4 * 3) := Nat.mul_le_mul (Nat.mul_le_mul_right _ h2.1.2) e1
    rw [← Nat.add_assoc, h1, if_neg (by omega)]
    by_cases c : r = 0
    · subst c
      rw [if_pos rfl] at h3 ih
      omega
    · rw [if_neg c] at h3 ih
      omega
theorem tot_le (h : iA L Rz C bd pr wd ht sta jp jw jh) : ∀ a, a ≤ C → sta (a * Rz) ≤ a * ((1 + 3 * (Rz - 1)) * 48)
  | 0, _ => by rw [Nat.zero_mul, Nat.zero_mul, h.2.2.2.2.1]; exact Nat.le_refl _
  | a + 1, ha => by
    have ih := tot_le h a (by omega)
    have h1 := row_le h (show a < C by omega) Rz (Nat.le_refl _)
    rw [if_neg (by have := h.2.1.1; omega)] at h1
    rw [show (a + 1) * Rz = a * Rz + Rz from Nat.succ_mul _ _, show (a + 1) * ((1 + 3 * (Rz - 1)) * 48) = a * ((1 + 3 * (Rz - 1)) * 48) + (1 + 3 * (Rz - 1)) * 48 from Nat.succ_mul _ _]
    omega
theorem most_of {n : Nat} (hR : 1 ≤ Rz ∧ Rz ≤ 4) (hC : 1 ≤ C ∧ C ≤ 3) (h1 : n ≤ C * ((1 + 3 * (Rz - 1)) * 48)) (h2 : n ≤ 400 + (C - 1) * (1 + 3 * (Rz - 1))) : n ≤ m_most Rz := by
  unfold m_most
  rcases (show C = 1 ∨ C = 2 ∨ C = 3 by omega) with c | c | c <;> subst c <;> omega
theorem iA_most (h : iA L Rz C bd pr wd ht sta jp jw jh) : sta (C * Rz) ≤ m_most Rz := most_of h.2.1 h.2.2.1 (tot_le h C (Nat.le_refl _)) h.2.2.2.2.2.2.2.2.2.2
/-- how many blocks there are before a slot, as the reference reckons -/
theorem bef_row (h : iA L Rz C bd pr wd ht sta jp jw jh) {a : Nat} (ha : a < C) (h0 : m_bef jp jw jh C Rz (4 * a) = sta (a * Rz)) : ∀ r, r ≤ 4 → m_bef jp jw jh C Rz (4 * a + r) = sta (a * Rz + min r Rz)
  | 0, _ => by rw [Nat.zero_min]; exact h0
  | r + 1, hr => by
    have ih := bef_row h ha h0 r (by omega)
    rw [← Nat.add_assoc, m_bef, ih, show (4 * a + r) / 4 = a by omega, show (4 * a + r) % 4 = r by omega]
    by_cases c : r < Rz
    · have hs : a * Rz + r < C * Rz := m_in ha c
      obtain ⟨k1, k2, k3, k4⟩ := iA_at h ha c
      rw [if_pos ⟨ha, c⟩, Nat.min_eq_left (by omega), Nat.min_eq_left (by omega), ← Nat.add_assoc, h.2.2.2.1.1 _ hs, k1, k2, k3, ← k4, Nat.mul_assoc (pr (a * Rz + r) * bd (a * Rz + r))]
    · rw [if_neg (fun q => c q.2), Nat.min_eq_right (by omega), Nat.min_eq_right (by omega), Nat.add_zero]
theorem bef_c (h : iA L Rz C bd pr wd ht sta jp jw jh) : ∀ a, a ≤ C → m_bef jp jw jh C Rz (4 * a) = sta (a * Rz)
  | 0, _ => by rw [Nat.zero_mul, h.2.2.2.2.1]; rfl
  | a + 1, ha => by
    have := bef_row h (show a < C by omega) (bef_c h a (by omega)) 4 (Nat.le_refl _)
    rw [show 4 * (a + 1) = 4 * a + 4 by omega, this, Nat.min_eq_right h.2.1.2, show (a + 1) * Rz = a * Rz + Rz from Nat.succ_mul _ _]
theorem bef_at (h : iA L Rz C bd pr wd ht sta jp jw jh) {a b : Nat} (ha : a < C) (hb : b < Rz) : m_bef jp jw jh C Rz (4 * a + b) = sta (a * Rz + b) := by
  have := bef_row h ha (bef_c h a (by omega)) b (by have := h.2.1.2; omega)
  rw [Nat.min_eq_left (by omega)] at this
  exact this
theorem bef_stay {C Rz : Nat} : ∀ k m, C * 4 ≤ k → m_bef jp jw jh C Rz (k + m) = m_bef jp jw jh C Rz k
  | k, 0, _ => rfl
  | k, m + 1, hk => by
    rw [← Nat.add_assoc, m_bef, if_neg (fun q => by have := q.1; omega), Nat.add_zero, bef_stay k m hk]
theorem bef_12 (h : iA L Rz C bd pr wd ht sta jp jw jh) : m_bef jp jw jh C Rz 12 = sta (C * Rz) := by
  have h1 := bef_c h C (Nat.le_refl _)
  have h2 := bef_stay (jp := jp) (jw := jw) (jh := jh) (C := C) (Rz := Rz) (4 * C) (12 - 4 * C) (by omega)
  rw [show 4 * C + (12 - 4 * C) = 12 by have := h.2.2.1.2; omega] at h2
  rw [h2, h1]
end IA
/-! a walk over the heads, with a reference read off the class's own rows -/
def fkB (Rz : Nat) (sta : Nat → Nat) (B : Nat) : Nat := sta (B / 144 / 4 * Rz + B / 144 % 4) + B % 144
section FK
variable {sta pr bd wd ht tps tln tzs : Nat → Nat} {n Rz L : Nat}
theorem fkB_at (h : shp sta pr bd wd ht n) (hR : 1 ≤ Rz ∧ Rz ≤ 4) {s q e : Nat} (hs : s < n) (hq : q < pr s * bd s) (he : e < wd s * ht s) : fkB Rz sta (mB Rz wd ht s q e) = cB sta wd ht s q e := by
  have a1 := q_fit hq he
  have b1 := (sz_lim h hs).2.2
  have m1 := Nat.mod_lt s (show 0 < Rz by omega)
  unfold fkB mB cB
  have e1 : (144 * gSl Rz s + q * (wd s * ht s) + e) / 144 = gSl Rz s := by omega
  have e2 : (144 * gSl Rz s + q * (wd s * ht s) + e) % 144 = q * (wd s * ht s) + e := by omega
  have e3 : gSl Rz s / 4 = s / Rz := by unfold gSl; omega
  have e4 : gSl Rz s % 4 = s % Rz := by unfold gSl; omega
  have e5 : s / Rz * Rz + s % Rz = s := Nat.div_add_mod' s Rz
  rw [e1, e2, e3, e4, e5, Nat.add_assoc]
theorem fk_tR (h : shp sta pr bd wd ht n) (hR : 1 ≤ Rz ∧ Rz ≤ 4) (hL : L ≤ 8) : tR sta pr bd wd ht tps tln tzs (fun j => tps (fkB Rz sta (j / 8) * L + j % 8)) (fun j => tln (fkB Rz sta (j / 8) * L + j % 8)) (fun j => tzs (fkB Rz sta j)) n Rz L := by
  intro s hs q hq e he
  have hf := fkB_at h hR hs hq he
  have d : ∀ y, y < L → (8 * mB Rz wd ht s q e + y) / 8 = mB Rz wd ht s q e ∧ (8 * mB Rz wd ht s q e + y) % 8 = y := fun y hy => by omega
  refine ⟨fun y hy => ?_, fun y hy => ?_, ?_⟩
  · show _ = tps (fkB Rz sta ((8 * mB Rz wd ht s q e + y) / 8) * L + (8 * mB Rz wd ht s q e + y) % 8)
    rw [(d y hy).1, (d y hy).2, hf]
  · show _ = tln (fkB Rz sta ((8 * mB Rz wd ht s q e + y) / 8) * L + (8 * mB Rz wd ht s q e + y) % 8)
    rw [(d y hy).1, (d y hy).2, hf]
  · show _ = tzs (fkB Rz sta (mB Rz wd ht s q e))
    rw [hf]
end FK
section WM
variable {L Rz C N : Nat} {bd pr wd ht sta jp jw jh tps tln tzs pl : Nat → Nat}
/-- the packets' places are sound, and their layers come in order -/
def plS (pr pl : Nat → Nat) (L Rz C N : Nat) : Prop := (∀ k, k < N → pl (k * 4 + 0) < L ∧ pl (k * 4 + 1) < Rz ∧ pl (k * 4 + 2) < C ∧ pl (k * 4 + 3) < pr (pl (k * 4 + 2) * Rz + pl (k * 4 + 1))) ∧ ∀ k, k < N → pl (k * 4 + 0) = cntP pl Rz (pl (k * 4 + 2) * Rz + pl (k * 4 + 1)) (pl (k * 4 + 3)) k
theorem plS_R (h : plS pr pl L Rz C N) : plR pr pl pl L Rz C N := ⟨fun k hk => ⟨⟨by rw [Nat.mul_comm]; rfl, by rw [Nat.mul_comm], by rw [Nat.mul_comm], by rw [Nat.mul_comm]⟩, h.1 k hk⟩, h.2⟩
def wV1 (Rz L C : Nat) (sta pr bd wd ht tps : Nat → Nat) (g : Nat → Option Nat) (vs : Nat → Nat) : Nat → Nat := m_gath (m_sg sta pr bd wd ht (m_fill none (2 * m_most Rz) g) (C * Rz)) (m_sv (m_fv tps L) sta pr bd wd ht (m_fill 1000 (2 * sta (C * Rz)) vs) (C * Rz)) (2 * sta (C * Rz))
def wV2 (Rz C : Nat) (sta pr bd wd ht tzs : Nat → Nat) (g : Nat → Option Nat) (vs : Nat → Nat) : Nat → Nat := m_gath (m_sg sta pr bd wd ht (m_fill none (2 * m_most Rz) g) (C * Rz)) (m_sv tzs sta pr bd wd ht (m_fill 1000 (2 * sta (C * Rz)) vs) (C * Rz)) (2 * sta (C * Rz))
def wY0 (n : Nat) (sta tps tln tzs : Nat → Nat) (gr : Nat → Nat) (bn : Nat → Bool) (lo1 : Nat → Nat) (dn1 : Nat → Bool) (lo2 : Nat → Nat) (dn2 : Nat → Bool) (u : wS) : hS wT := (tps, tln, tzs, m_fill 3 (sta n) gr, m_fill false (sta n) bn, m_fill 0 (2 * sta n) lo1, m_fill false (2 * sta n) dn1, m_fill 0 (2 * sta n) lo2, m_fill false (2 * sta n) dn2, u)
set_option maxHeartbeats 4000000 in
theorem wr_main (hA : iA L Rz C bd pr wd ht sta jp jw jh) (hP : plS pr pl L Rz C N) (p2 : ∀ j, tps j ≤ 164) (p3 : ∀ j, tln j < 2 ^ 16) (p4 : ∀ j, tzs j ≤ 30) :
    ∃ D : Nat, ∀ (ms : Bool) (row : Nat → Nat) (g : Nat → Option Nat) (v1 v2 gr lo1 lo2 : Nat → Nat) (bn dn1 dn2 : Nat → Bool),
      (∀ k, k ≤ N → ((t_it (pkW ms (wV1 Rz L C sta pr bd wd ht tps g v1) (wV2 Rz C sta pr bd wd ht tzs g v2) pl sta bd wd ht L Rz) k (wY0 (C * Rz) sta tps tln tzs gr bn lo1 dn1 lo2 dn2 (0, row, 0, 0, 8))).1 = tps ∧ (t_it (pkW ms (wV1 Rz L C sta pr bd wd ht tps g v1) (wV2 Rz C sta pr bd wd ht tzs g v2) pl sta bd wd ht L Rz) k (wY0 (C * Rz) sta tps tln tzs gr bn lo1 dn1 lo2 dn2 (0, row, 0, 0, 8))).2.1 = tln ∧ (t_it (pkW ms (wV1 Rz L C sta pr bd wd ht tps g v1) (wV2 Rz C sta pr bd wd ht tzs g v2) pl sta bd wd ht L Rz) k (wY0 (C * Rz) sta tps tln tzs gr bn lo1 dn1 lo2 dn2 (0, row, 0, 0, 8))).2.2.1 = tzs) ∧ (t_it (pkW ms (wV1 Rz L C sta pr bd wd ht tps g v1) (wV2 Rz C sta pr bd wd ht tzs g v2) pl sta bd wd ht L Rz) k (wY0 (C * Rz) sta tps tln tzs gr bn lo1 dn1 lo2 dn2 (0, row, 0, 0, 8))).2.2.2.2.2.2.2.2.2.1 = 0) ∧ min (t_it (pkW ms (wV1 Rz L C sta pr bd wd ht tps g v1) (wV2 Rz C sta pr bd wd ht tzs g v2) pl sta bd wd ht L Rz) N (wY0 (C * Rz) sta tps tln tzs gr bn lo1 dn1 lo2 dn2 (0, row, 0, 0, 8))).2.2.2.2.2.2.2.2.2.2.2.1 6008 = D := by
  have hL := hA.1
  have hR := hA.2.1
  have hC := hA.2.2.1
  have hsh := hA.2.2.2.1
  have hT := fk_tR (tps := tps) (tln := tln) (tzs := tzs) (L := L) hsh hR hL.2
  refine ⟨(r_it (r_pk false (fun _ => 0) (fun j => tzs (fkB Rz sta j)) (fun j => tps (fkB Rz sta (j / 8) * L + j % 8)) (fun j => tln (fkB Rz sta (j / 8) * L + j % 8)) jw jh pl 0 L) N ((m_fill 3 1728 (fun _ => 0), m_fill 0 4896 (fun _ => 0), m_fill false 4896 (fun _ => false), fun _ => 0, fun _ => none, fun _ => 0, fun _ => 0, 0, 0, 0, 0, 0, 0, fun _ => 0) : kS)).2.2.2.2.2.2.2.2.2.2.2.2.1, ?_⟩
  intro ms row g v1 v2 gr lo1 lo2 bn dn1 dn2
  have hnone : ∀ j, j < 2 * m_most Rz → m_fill none (2 * m_most Rz) g j = none := fun j hj => by unfold m_fill; rw [if_pos hj]
  have w1 := vR_of (v := m_fv tps L) (vs := v1) (Rz := Rz) (L := L) (jz := fun j => tzs (fkB Rz sta j)) (jps := fun j => tps (fkB Rz sta (j / 8) * L + j % 8)) (zr := false) hsh hA.2.2.2.2.1 (iA_most hA) hnone (fun s hs q hq e he => by
    unfold r_own
    rw [if_neg (by decide)]
    exact m_first_eq (hT s hs q hq e he).1) (fun j => Nat.le_trans (m_first_le tps j L) (by omega))
  have w2 := vR_of (v := tzs) (vs := v2) (Rz := Rz) (L := L) (jz := fun j => tzs (fkB Rz sta j)) (jps := fun j => tps (fkB Rz sta (j / 8) * L + j % 8)) (zr := true) hsh hA.2.2.2.2.1 (iA_most hA) hnone (fun s hs q hq e he => by
    unfold r_own
    rw [if_pos rfl]
    exact (hT s hs q hq e he).2.2) (fun j => by have := p4 j; omega)
  obtain ⟨b1, b2, b3⟩ := HR_0 (V1 := wV1 Rz L C sta pr bd wd ht tps g v1) (V2 := wV2 Rz C sta pr bd wd ht tzs g v2) (tps := tps) (tln := tln) (tzs := tzs) (pl := pl) (L := L) (σ := ((0, row, 0, 0, 8) : wS)) (gr := gr) (lo1 := lo1) (lo2 := lo2) (bn := bn) (dn1 := dn1) (dn2 := dn2) (jgr := fun _ => 0) (jlo := fun _ => 0) (jdo := fun _ => false) (jrz := fun _ => 0) (jrf := fun _ => none) (jrp := fun _ => 0) (jrl := fun _ => 0) (mle := 0) (mno := 0) (mla := 0) (jdr := fun _ => 0) hsh hR hC.2
  have hBe : Be ms ((0, row, 0, 0, 8) : wS) ((0, 0, 0, 0, 0, 0, fun _ => 0) : mS) := ⟨rfl, rfl, rfl, rfl, by show 0 = min 0 6008; omega, fun _ j hj => absurd hj (Nat.not_lt_zero _)⟩
  have key := it_rel (ms := ms) (f := fun _ => 0) (z := 0) (jw := jw) (jh := jh) hsh hR hC.2 (fun s hs => ⟨(hA.2.2.2.2.2.2.1 s hs).2.1, (hA.2.2.2.2.2.2.1 s hs).2.2.1, (hA.2.2.2.2.2.2.1 s hs).2.2.2⟩) (plS_R hP) hT p2 p3 (fun j => p4 _) w1 w2 b1 hBe b2 b3
  refine ⟨fun k hk => ⟨(key k hk).1.1, (key k hk).2.1.1⟩, ?_⟩
  exact (key N (Nat.le_refl _)).2.1.2.2.2.2.1.symm
end WM

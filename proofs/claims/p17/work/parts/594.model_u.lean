/-! what holds between two calls -/
def iP (pts : Nat) (fo fe jpr : Nat → Nat) : Prop := pts ≤ 6 ∧ (∀ i, i < pts → fo i < 5 ∧ fo i = jpr (4 * i) ∧ fe (i * 3 + 0) = jpr (4 * i + 1) ∧ fe (i * 3 + 1) = jpr (4 * i + 2) ∧ fe (i * 3 + 2) = jpr (4 * i + 3) ∧ 1 ≤ jpr (4 * i + 1) ∧ 1 ≤ jpr (4 * i + 2) ∧ 1 ≤ jpr (4 * i + 3)) ∧ (∀ j, fe j < 2 ^ 31) ∧ (∀ j, jpr j < 2 ^ 31)
def iX (L Rz C pts : Nat) (pr jp jpr : Nat → Nat) (X : lS) : Prop := oL pr L Rz C (L * Rz * 3 * 4) X ∧ ∀ (jen : Nat → Nat) (Y : lS), qR L Rz C X (co_list jpr jp L Rz C pts jen Y).2
def iC (Rz C : Nat) (pr bd wd ht : Nat → Nat) (cs co ch : Nat) : Prop := cs < C * Rz ∧ co < pr cs * bd cs * (wd cs * ht cs) ∧ ch = 144 * gSl Rz cs + co
def iT (L Rz C : Nat) (bd pr wd ht sta tps tln tzs jps jln jz : Nat → Nat) : Prop := tR sta pr bd wd ht tps tln tzs jps jln jz (C * Rz) Rz L ∧ oZ C jps jln jz ∧ (∀ j, tps j ≤ 164) ∧ (∀ j, tln j < 2 ^ 16) ∧ (∀ j, tzs j ≤ 30) ∧ (∀ j, jps j ≤ 164) ∧ (∀ j, jln j < 2 ^ 16) ∧ (∀ j, jz j ≤ 30)
def iB (bz msz : Nat) (f jby : Nat → Nat) : Prop := bz ≤ 6000 ∧ msz = bz ∧ (∀ j, f j < 256) ∧ (∀ j, jby j < 256) ∧ ∀ j, j < bz → f j = jby j
def iR (L Rz C : Nat) (bd pr wd ht sta rps rln rzs jrp jrl jrz : Nat → Nat) (jrf : Nat → Option Nat) (lf lr mf mov : Nat) : Prop := (∀ j, rps j ≤ 164) ∧ (∀ j, rln j < 2 ^ 30) ∧ (∀ j, rzs j < 2 ^ 30) ∧ (∀ j k, jrf j = some k → k < 8) ∧ tR sta pr bd wd ht rps rln rzs jrp jrl jrz (C * Rz) Rz L ∧ tR sta pr bd wd ht rps rln (cF rps L) jrp jrl (fun m => eF (jrf m)) (C * Rz) Rz L ∧ oZ C jrp jrl jrz ∧ oZ C jrp jrl (fun m => eF (jrf m)) ∧ lf = mf ∧ lr = mov
def iH (Rz : Nat) (g : Nat → Option Nat) (vs1 lo1 vs2 lo2 : Nat → Nat) (wf ru rl : Nat) : Prop := (∀ i p, g i = some p → p < 2 * m_most Rz) ∧ (∀ j, vs1 j < 2 ^ 30) ∧ (∀ j, vs2 j < 2 ^ 30) ∧ (∀ j, lo1 j < 2 ^ 30) ∧ (∀ j, lo2 j < 2 ^ 30) ∧ wf = 0 ∧ ru < 256 ∧ rl ≤ 8
def iJ (jlo jdr : Nat → Nat) (mf : Nat) : Prop := (∀ j, jlo j < 2 ^ 20) ∧ (∀ j, jdr j < 256) ∧ mf < 4
def INV (L Rz C : Nat) (bd pr wd ht sta tps tln tzs rps rln rzs : Nat → Nat) (pts : Nat) (fo fe : Nat → Nat) (X : lS) (bz : Nat) (f : Nat → Nat) (wf ru rl : Nat) (g : Nat → Option Nat) (vs1 lo1 vs2 lo2 : Nat → Nat) (cs co : Nat) (jp jw jh jz jps jln : Nat → Nat) (jrz : Nat → Nat) (jrf : Nat → Option Nat) (jrp jrl : Nat → Nat) (ch : Nat) (jpr : Nat → Nat) (msz : Nat) (jby : Nat → Nat) (mf mov lf lr : Nat) (jlo jdr : Nat → Nat) : Prop :=
  iA L Rz C bd pr wd ht sta jp jw jh ∧ iP pts fo fe jpr ∧ iX L Rz C pts pr jp jpr X ∧ iC Rz C pr bd wd ht cs co ch ∧ iT L Rz C bd pr wd ht sta tps tln tzs jps jln jz ∧ iB bz msz f jby ∧ iR L Rz C bd pr wd ht sta rps rln rzs jrp jrl jrz jrf lf lr mf mov ∧ iH Rz g vs1 lo1 vs2 lo2 wf ru rl ∧ iJ jlo jdr mf
/-! rows of the reference, of the class -/
theorem room_le {f : Nat → Nat} {t y z k B : Nat} (h : ∀ j, f j ≤ B) : ∀ j, m_room f t y z k j ≤ B := fun j => by
  rw [room_eq]
  split
  · exact Nat.zero_le _
  · split
    · exact h _
    · exact h _
theorem room_lt {f : Nat → Nat} {t y z k B : Nat} (h : ∀ j, f j < B) : ∀ j, m_room f t y z k j < B := fun j => by
  rw [room_eq]
  split
  · exact Nat.lt_of_le_of_lt (Nat.zero_le _) (h 0)
  · split
    · exact h _
    · exact h _
theorem put0_lt {f : Nat → Nat} {a n B : Nat} (h : ∀ j, f j < B) : ∀ j, m_put (fun _ => 0) a n f j < B := fun j => by
  unfold m_put
  split
  · exact Nat.lt_of_le_of_lt (Nat.zero_le _) (h 0)
  · exact h _
theorem put0_le {f : Nat → Nat} {a n B : Nat} (h : ∀ j, f j ≤ B) : ∀ j, m_put (fun _ => 0) a n f j ≤ B := m_put_le (fun _ => Nat.zero_le _) h
theorem put_jG {jps : Nat → Nat} {g a n : Nat} (ha : a = 1152 * g) (hn : n = 1152) : jGr g jps (m_put (fun _ => 0) a n jps) := by
  intro B hB y hy
  unfold m_put
  by_cases c : B / 144 = g
  · rw [if_pos c, if_pos (by omega)]
  · rw [if_neg c, if_neg (by omega)]
theorem put_jG1 {jz : Nat → Nat} {g a n : Nat} (ha : a = 144 * g) (hn : n = 144) : jG1 g jz (m_put (fun _ => 0) a n jz) := by
  intro B hB
  unfold m_put
  by_cases c : B / 144 = g
  · rw [if_pos c, if_pos (by omega)]
  · rw [if_neg c, if_neg (by omega)]
theorem oZ_G {C g : Nat} {jps jln jz jps2 jln2 jz2 : Nat → Nat} (j1 : jGr g jps jps2) (j2 : jGr g jln jln2) (j3 : jG1 g jz jz2) (h : oZ C jps jln jz) : oZ C jps2 jln2 jz2 := by
  intro B hB hC
  obtain ⟨h1, h2⟩ := h B hB hC
  refine ⟨?_, fun y hy => ⟨?_, ?_⟩⟩
  · rw [j3 B hB]; split
    · rfl
    · exact h1
  · rw [j1 B hB y hy]; split
    · rfl
    · exact (h2 y hy).1
  · rw [j2 B hB y hy]; split
    · rfl
    · exact (h2 y hy).2
theorem oZ_mono {C : Nat} {jps jln jz : Nat → Nat} (h : oZ C jps jln jz) : oZ (C + 1) jps jln jz := fun B hB hC => h B hB (by omega)
theorem ch_in {Rz C : Nat} {pr bd wd ht sta : Nat → Nat} {cs co ch : Nat} (h : shp sta pr bd wd ht (C * Rz)) (hR : 1 ≤ Rz ∧ Rz ≤ 4) (hC : C ≤ 3) (hc : iC Rz C pr bd wd ht cs co ch) : ch / 576 < C ∧ ch < 1728 ∧ ch / 144 = gSl Rz cs := by
  obtain ⟨h1, h2, h3⟩ := hc
  have l1 := (sz_lim h h1).2.2
  have l2 := gSl_lt hR hC h1
  have l3 : cs / Rz < C := Nat.div_lt_of_lt_mul (by rw [Nat.mul_comm]; exact h1)
  have l4 := Nat.mod_lt cs (show 0 < Rz by omega)
  have l5 : gSl Rz cs = 4 * (cs / Rz) + cs % Rz := rfl
  omega
section IC
variable {L Rz C : Nat} {bd pr wd ht sta jp jw jh tps tln tzs jps jln jz fo fe jpr fn : Nat → Nat} {cs co ch a b c0 d0 e0 pts : Nat} {X : lS}
theorem iX_of (hA : iA L Rz C bd pr wd ht sta jp jw jh) (hP : iP pts fo fe jpr) (hJ : oL pr L Rz C (L * Rz * 3 * 4) (lp_list fo fe pr L Rz C pts (L * Rz * 3 * 4) fn X).2) : iX L Rz C pts pr jp jpr (lp_list fo fe pr L Rz C pts (L * Rz * 3 * 4) fn X).2 :=
  ⟨hJ, fun _ _ => qR_list hA.1 hA.2.1 hA.2.2.1 (fun _ _ ha hk => ((iA_at hA ha hk).1).symm) hP.2.1⟩
theorem iP_fo (h : iP pts fo fe jpr) : ∀ j, j < pts → fo j < 5 := fun j hj => (h.2.1 j hj).1
theorem iP_pa (h : iP pts fo fe jpr) : ∀ j, j < pts → jpr (4 * j) < 5 ∧ 1 ≤ jpr (4 * j + 1) ∧ 1 ≤ jpr (4 * j + 2) ∧ 1 ≤ jpr (4 * j + 3) := fun j hj => by
  obtain ⟨h1, h2, -, -, -, h3, h4, h5⟩ := h.2.1 j hj
  exact ⟨by rw [← h2]; exact h1, h3, h4, h5⟩
theorem iP_add {q y w k : Nat} (h : iP pts fo fe jpr) (h6 : pts < 6) (h1 : q ≤ 4) (h2 : 1 ≤ y ∧ y ≤ 8) (h3 : 1 ≤ w ∧ w ≤ 4) (h4 : 1 ≤ k ∧ k ≤ 3) : iP (pts + 1) (va_up fo pts q) (va_up (va_up (va_up fe (pts * 3) y) (pts * 3 + 1) w) (pts * 3 + 2) k) (va_up (va_up (va_up (va_up jpr (4 * pts) q) (4 * pts + 1) y) (4 * pts + 2) w) (4 * pts + 3) k) := by
  obtain ⟨g1, g2, g3, g4⟩ := h
  refine ⟨by omega, fun i hi => ?_, m_up_lt9 (m_up_lt9 (m_up_lt9 g3 (by omega)) (by omega)) (by omega), m_up_lt9 (m_up_lt9 (m_up_lt9 (m_up_lt9 g4 (by omega)) (by omega)) (by omega)) (by omega)⟩
  by_cases c : i = pts
  · subst c
    unfold va_up
    simp only [if_true, Nat.add_zero]
    refine ⟨by omega, ?_, ?_, ?_, trivial, ?_, ?_, ?_⟩ <;> (repeat' (first | rw [if_pos rfl] | rw [if_neg (by omega)])) <;> omega
  · obtain ⟨t1, t2, t3, t4, t5, t6, t7, t8⟩ := g2 i (by omega)
    have f3 : ∀ j, j < pts * 3 → va_up (va_up (va_up fe (pts * 3) y) (pts * 3 + 1) w) (pts * 3 + 2) k j = fe j := fun j hj => by rw [va_up_ne _ _ (by omega), va_up_ne _ _ (by omega), va_up_ne _ _ (by omega)]
    have p4 : ∀ j, j < 4 * pts → va_up (va_up (va_up (va_up jpr (4 * pts) q) (4 * pts + 1) y) (4 * pts + 2) w) (4 * pts + 3) k j = jpr j := fun j hj => by rw [va_up_ne _ _ (by omega), va_up_ne _ _ (by omega), va_up_ne _ _ (by omega), va_up_ne _ _ (by omega)]
    rw [va_up_ne _ _ c, f3 _ (by omega), f3 _ (by omega), f3 _ (by omega), p4 _ (by omega), p4 _ (by omega), p4 _ (by omega), p4 _ (by omega)]
    exact ⟨t1, t2, t3, t4, t5, t6, t7, t8⟩
theorem iC_comp (h : iA L Rz C bd pr wd ht sta jp jw jh) (hc : iC Rz C pr bd wd ht cs co ch) : iC Rz (C + 1) (m_put m_one (C * Rz) Rz pr) (m_put m_b13 (C * Rz) Rz bd) (m_put m_one (C * Rz) Rz wd) (m_put m_one (C * Rz) Rz ht) cs co ch := by
  obtain ⟨h1, h2, h3⟩ := hc
  have e : (C + 1) * Rz = C * Rz + Rz := Nat.succ_mul _ _
  refine ⟨by omega, ?_, h3⟩
  rw [put_lo h1, put_lo h1, put_lo h1, put_lo h1]
  exact h2
theorem iC_grid (h : iA L Rz C bd pr wd ht sta jp jw jh) (hc : iC Rz C pr bd wd ht cs co ch) (ha : a < C) (hb : b < Rz) (q1 : 1 ≤ c0 ∧ c0 ≤ 4) (q2 : 1 ≤ d0 ∧ d0 ≤ 4) (q3 : 1 ≤ e0 ∧ e0 ≤ 3) : iC Rz C (va_up pr (a * Rz + b) c0) bd (va_up wd (a * Rz + b) d0) (va_up ht (a * Rz + b) e0) cs (if cs = a * Rz + b then 0 else co) (m_chs ch (4 * a + b)) := by
  have hi := ch_in h.2.2.2.1 h.2.1 h.2.2.1.2 hc
  obtain ⟨h1, h2, h3⟩ := hc
  have hg : gSl Rz (a * Rz + b) = 4 * a + b := gSl_at hb
  unfold m_chs
  by_cases c : cs = a * Rz + b
  · subst c
    have hbd := (h.2.2.2.1.2 _ h1).2.1.1
    rw [if_pos rfl, if_pos (hi.2.2.trans hg)]
    refine ⟨h1, ?_, by rw [hg]; rfl⟩
    rw [va_up_self, va_up_self, va_up_self]
    exact Nat.mul_pos (Nat.mul_pos q1.1 hbd) (Nat.mul_pos q2.1 q3.1)
  · rw [if_neg c, if_neg (fun q => c (gSl_inj h.2.1 ((hi.2.2.symm.trans q).trans hg.symm)))]
    refine ⟨h1, ?_, h3⟩
    rw [va_up_ne _ _ c, va_up_ne _ _ c, va_up_ne _ _ c]
    exact h2
theorem iC_new (h : iA L Rz C bd pr wd ht sta jp jw jh) (ha : a < C) (hb : b < Rz) (p1 : c0 < pr (a * Rz + b)) (p2 : d0 < bd (a * Rz + b)) (p3 : e0 < wd (a * Rz + b) * ht (a * Rz + b)) : iC Rz C pr bd wd ht (a * Rz + b) ((c0 * bd (a * Rz + b) + d0) * (wd (a * Rz + b) * ht (a * Rz + b)) + e0) (144 * (4 * a + b) + ((c0 * m_bnd (4 * a + b) + d0) * (jw (4 * a + b) * jh (4 * a + b)) + e0)) := by
  obtain ⟨k1, k2, k3, k4⟩ := iA_at h ha hb
  refine ⟨m_in ha hb, q_fit (m_in p1 p2) p3, ?_⟩
  rw [gSl_at hb, k2, k3, ← k4]
theorem iC_lim (h : iA L Rz C bd pr wd ht sta jp jw jh) (hc : iC Rz C pr bd wd ht cs co ch) : cs < 3 * Rz + 1 ∧ sta cs + co < m_most Rz ∧ cs < 2 ^ 20 := by
  obtain ⟨h1, h2, h3⟩ := hc
  have l1 := iA_in h h1
  have l2 := iA_most h
  have l3 : C * Rz ≤ 3 * Rz := Nat.mul_le_mul_right _ h.2.2.1.2
  have l4 := h.2.1.2
  omega
theorem iT_comp (h : iA L Rz C bd pr wd ht sta jp jw jh) (hC3 : C < 3) (hT : iT L Rz C bd pr wd ht sta tps tln tzs jps jln jz) :
    iT L Rz (C + 1) (m_put m_b13 (C * Rz) Rz bd) (m_put m_one (C * Rz) Rz pr) (m_put m_one (C * Rz) Rz wd) (m_put m_one (C * Rz) Rz ht) (m_starts (m_put m_one (C * Rz) Rz pr) (m_put m_b13 (C * Rz) Rz bd) (m_put m_one (C * Rz) Rz wd) (m_put m_one (C * Rz) Rz ht) sta ((C + 1) * Rz))
      (m_room tps ((sta (C * Rz)) * L) (0 * L) (((m_starts (m_put m_one (C * Rz) Rz pr) (m_put m_b13 (C * Rz) Rz bd) (m_put m_one (C * Rz) Rz wd) (m_put m_one (C * Rz) Rz ht) sta ((C + 1) * Rz) ((C + 1) * Rz)) - (sta (C * Rz))) * L) (((sta (C * Rz)) - (sta (C * Rz)) - 0) * L)) (m_room tln ((sta (C * Rz)) * L) (0 * L) (((m_starts (m_put m_one (C * Rz) Rz pr) (m_put m_b13 (C * Rz) Rz bd) (m_put m_one (C * Rz) Rz wd) (m_put m_one (C * Rz) Rz ht) sta ((C + 1) * Rz) ((C + 1) * Rz)) - (sta (C * Rz))) * L) (((sta (C * Rz)) - (sta (C * Rz)) - 0) * L)) (m_room tzs (sta (C * Rz)) 0 ((m_starts (m_put m_one (C * Rz) Rz pr) (m_put m_b13 (C * Rz) Rz bd) (m_put m_one (C * Rz) Rz wd) (m_put m_one (C * Rz) Rz ht) sta ((C + 1) * Rz) ((C + 1) * Rz)) - (sta (C * Rz))) ((sta (C * Rz)) - (sta (C * Rz)) - 0)) jps jln jz := by
  obtain ⟨t1, t2, t3, t4, t5, t6, t7, t8⟩ := hT
  exact ⟨tR_comp h hC3 t2 t1 rfl rfl, oZ_mono t2, room_le t3, room_lt t4, room_le t5, t6, t7, t8⟩
theorem iT_grid (h : iA L Rz C bd pr wd ht sta jp jw jh) (ha : a < C) (hb : b < Rz) (q1 : 1 ≤ c0 ∧ c0 ≤ 4) (q2 : 1 ≤ d0 ∧ d0 ≤ 4) (q3 : 1 ≤ e0 ∧ e0 ≤ 3) (hbig : sta (C * Rz) - (pr (a * Rz + b) * bd (a * Rz + b) * (wd (a * Rz + b) * ht (a * Rz + b))) + (c0 * bd (a * Rz + b) * d0 * e0) ≤ 400) (hT : iT L Rz C bd pr wd ht sta tps tln tzs jps jln jz) :
    iT L Rz C bd (va_up pr (a * Rz + b) c0) (va_up wd (a * Rz + b) d0) (va_up ht (a * Rz + b) e0) (m_starts (va_up pr (a * Rz + b) c0) bd (va_up wd (a * Rz + b) d0) (va_up ht (a * Rz + b) e0) sta (C * Rz))
      (m_room tps ((sta (a * Rz + b)) * L) ((pr (a * Rz + b) * bd (a * Rz + b) * (wd (a * Rz + b) * ht (a * Rz + b))) * L) ((c0 * bd (a * Rz + b) * d0 * e0) * L) (((sta (C * Rz)) - sta (a * Rz + b) - (pr (a * Rz + b) * bd (a * Rz + b) * (wd (a * Rz + b) * ht (a * Rz + b)))) * L))
      (m_room tln ((sta (a * Rz + b)) * L) ((pr (a * Rz + b) * bd (a * Rz + b) * (wd (a * Rz + b) * ht (a * Rz + b))) * L) ((c0 * bd (a * Rz + b) * d0 * e0) * L) (((sta (C * Rz)) - sta (a * Rz + b) - (pr (a * Rz + b) * bd (a * Rz + b) * (wd (a * Rz + b) * ht (a * Rz + b)))) * L))
      (m_room tzs (sta (a * Rz + b)) (pr (a * Rz + b) * bd (a * Rz + b) * (wd (a * Rz + b) * ht (a * Rz + b))) (c0 * bd (a * Rz + b) * d0 * e0) ((sta (C * Rz)) - sta (a * Rz + b) - (pr (a * Rz + b) * bd (a * Rz + b) * (wd (a * Rz + b) * ht (a * Rz + b)))))
      (m_put (fun _ => 0) (1152 * (4 * a + b)) (1152) jps) (m_put (fun _ => 0) (1152 * (4 * a + b)) (1152) jln) (m_put (fun _ => 0) (144 * (4 * a + b)) (144) jz) := by
  obtain ⟨t1, t2, t3, t4, t5, t6, t7, t8⟩ := hT
  have j1 := put_jG (jps := jps) (g := 4 * a + b) rfl rfl
  have j2 := put_jG (jps := jln) (g := 4 * a + b) rfl rfl
  have j3 := put_jG1 (jz := jz) (g := 4 * a + b) rfl rfl
  exact ⟨tR_grid h ha hb q1 q2 q3 hbig j1 j2 j3 t1, oZ_G j1 j2 j3 t2, room_le t3, room_lt t4, room_le t5, put0_le t6, put0_lt t7, put0_le t8⟩
theorem m_l0_lt {n y : Nat} (hy : y ≤ 65535) : m_l0 n y < 2 ^ 16 := by unfold m_l0; split <;> omega
theorem iT_pass {n y : Nat} (h : iA L Rz C bd pr wd ht sta jp jw jh) (hc : iC Rz C pr bd wd ht cs co ch) (ha : a < L) (hn : n ≤ 164) (hy : y ≤ 65535) (hT : iT L Rz C bd pr wd ht sta tps tln tzs jps jln jz) :
    iT L Rz C bd pr wd ht sta (va_up tps ((sta cs + co) * L + a) n) (va_up tln ((sta cs + co) * L + a) (m_l0 n y)) tzs (va_up jps (8 * ch + a) n) (va_up jln (8 * ch + a) (m_l0 n y)) jz := by
  obtain ⟨t1, t2, t3, t4, t5, t6, t7, t8⟩ := hT
  have hi := ch_in h.2.2.2.1 h.2.1 h.2.2.1.2 hc
  have hL := h.1.2
  refine ⟨tR_pass h.2.2.2.1 h.2.1 hL hc.1 hc.2.1 hc.2.2 ha t1, fun B hB hC => ?_, m_up_le9 t3 hn, m_up_lt9 t4 (m_l0_lt hy), t5, m_up_le9 t6 hn, m_up_lt9 t7 (m_l0_lt hy), t8⟩
  obtain ⟨z1, z2⟩ := t2 B hB hC
  refine ⟨z1, fun y hy => ?_⟩
  have hne : ¬ B = ch := fun q => by subst q; omega
  rw [va_up_ne _ _ (by omega), va_up_ne _ _ (by omega)]
  exact z2 y hy
theorem iT_zero {v : Nat} (h : iA L Rz C bd pr wd ht sta jp jw jh) (hc : iC Rz C pr bd wd ht cs co ch) (hv : v ≤ 30) (hT : iT L Rz C bd pr wd ht sta tps tln tzs jps jln jz) :
    iT L Rz C bd pr wd ht sta tps tln (va_up tzs (sta cs + co) v) jps jln (va_up jz ch v) := by
  obtain ⟨t1, t2, t3, t4, t5, t6, t7, t8⟩ := hT
  have hi := ch_in h.2.2.2.1 h.2.1 h.2.2.1.2 hc
  refine ⟨tR_zero h.2.2.2.1 h.2.1 hc.1 hc.2.1 hc.2.2 t1, fun B hB hC => ?_, t3, t4, m_up_le9 t5 hv, t6, t7, m_up_le9 t8 hv⟩
  obtain ⟨z1, z2⟩ := t2 B hB hC
  refine ⟨?_, z2⟩
  rw [va_up_ne _ _ (fun q => by subst q; omega)]
  exact z1
theorem iR_comp {rps rln rzs jrp jrl jrz : Nat → Nat} {jrf : Nat → Option Nat} {lf lr mf mov : Nat} (h : iA L Rz C bd pr wd ht sta jp jw jh) (hC3 : C < 3) (hr : iR L Rz C bd pr wd ht sta rps rln rzs jrp jrl jrz jrf lf lr mf mov) :
    iR L Rz (C + 1) (m_put m_b13 (C * Rz) Rz bd) (m_put m_one (C * Rz) Rz pr) (m_put m_one (C * Rz) Rz wd) (m_put m_one (C * Rz) Rz ht) (m_starts (m_put m_one (C * Rz) Rz pr) (m_put m_b13 (C * Rz) Rz bd) (m_put m_one (C * Rz) Rz wd) (m_put m_one (C * Rz) Rz ht) sta ((C + 1) * Rz)) (m_room rps ((sta (C * Rz)) * L) (0 * L) (((m_starts (m_put m_one (C * Rz) Rz pr) (m_put m_b13 (C * Rz) Rz bd) (m_put m_one (C * Rz) Rz wd) (m_put m_one (C * Rz) Rz ht) sta ((C + 1) * Rz) ((C + 1) * Rz)) - (sta (C * Rz))) * L) (((sta (C * Rz)) - (sta (C * Rz)) - 0) * L)) (m_room rln ((sta (C * Rz)) * L) (0 * L) (((m_starts (m_put m_one (C * Rz) Rz pr) (m_put m_b13 (C * Rz) Rz bd) (m_put m_one (C * Rz) Rz wd) (m_put m_one (C * Rz) Rz ht) sta ((C + 1) * Rz) ((C + 1) * Rz)) - (sta (C * Rz))) * L) (((sta (C * Rz)) - (sta (C * Rz)) - 0) * L)) (m_room rzs (sta (C * Rz)) 0 ((m_starts (m_put m_one (C * Rz) Rz pr) (m_put m_b13 (C * Rz) Rz bd) (m_put m_one (C * Rz) Rz wd) (m_put m_one (C * Rz) Rz ht) sta ((C + 1) * Rz) ((C + 1) * Rz)) - (sta (C * Rz))) ((sta (C * Rz)) - (sta (C * Rz)) - 0)) jrp jrl jrz jrf lf lr mf mov := by
  obtain ⟨t1, t2, t3, t4, t5, t6, t7, t8, t9, t10⟩ := hr
  refine ⟨room_le t1, room_lt t2, room_lt t3, t4, tR_comp h hC3 t7 t5 rfl rfl, ?_, oZ_mono t7, oZ_mono t8, t9, t10⟩
  rw [cF_room]
  exact tR_comp h hC3 t8 t6 rfl rfl
theorem iR_grid {rps rln rzs jrp jrl jrz : Nat → Nat} {jrf : Nat → Option Nat} {lf lr mf mov : Nat} (h : iA L Rz C bd pr wd ht sta jp jw jh) (ha : a < C) (hb : b < Rz) (q1 : 1 ≤ c0 ∧ c0 ≤ 4) (q2 : 1 ≤ d0 ∧ d0 ≤ 4) (q3 : 1 ≤ e0 ∧ e0 ≤ 3) (hbig : sta (C * Rz) - (pr (a * Rz + b) * bd (a * Rz + b) * (wd (a * Rz + b) * ht (a * Rz + b))) + (c0 * bd (a * Rz + b) * d0 * e0) ≤ 400) (hr : iR L Rz C bd pr wd ht sta rps rln rzs jrp jrl jrz jrf lf lr mf mov) :
    iR L Rz C bd (va_up pr (a * Rz + b) c0) (va_up wd (a * Rz + b) d0) (va_up ht (a * Rz + b) e0) (m_starts (va_up pr (a * Rz + b) c0) bd (va_up wd (a * Rz + b) d0) (va_up ht (a * Rz + b) e0) sta (C * Rz)) (m_room rps ((sta (a * Rz + b)) * L) ((pr (a * Rz + b) * bd (a * Rz + b) * (wd (a * Rz + b) * ht (a * Rz + b))) * L) ((c0 * bd (a * Rz + b) * d0 * e0) * L) (((sta (C * Rz)) - sta (a * Rz + b) - (pr (a * Rz + b) * bd (a * Rz + b) * (wd (a * Rz + b) * ht (a * Rz + b)))) * L)) (m_room rln ((sta (a * Rz + b)) * L) ((pr (a * Rz + b) * bd (a * Rz + b) * (wd (a * Rz + b) * ht (a * Rz + b))) * L) ((c0 * bd (a * Rz + b) * d0 * e0) * L) (((sta (C * Rz)) - sta (a * Rz + b) - (pr (a * Rz + b) * bd (a * Rz + b) * (wd (a * Rz + b) * ht (a * Rz + b)))) * L)) (m_room rzs (sta (a * Rz + b)) (pr (a * Rz + b) * bd (a * Rz + b) * (wd (a * Rz + b) * ht (a * Rz + b))) (c0 * bd (a * Rz + b) * d0 * e0) ((sta (C * Rz)) - sta (a * Rz + b) - (pr (a * Rz + b) * bd (a * Rz + b) * (wd (a * Rz + b) * ht (a * Rz + b))))) (m_put (fun _ => 0) (8 * (144 * (4 * a + b))) (8 * (144 * (4 * a + b) + 144) - 8 * (144 * (4 * a + b))) jrp) (m_put (fun _ => 0) (8 * (144 * (4 * a + b))) (8 * (144 * (4 * a + b) + 144) - 8 * (144 * (4 * a + b))) jrl) (m_put (fun _ => 0) (144 * (4 * a + b)) (144 * (4 * a + b) + 144 - 144 * (4 * a + b)) jrz) (m_put (fun _ => none) (144 * (4 * a + b)) (144 * (4 * a + b) + 144 - 144 * (4 * a + b)) jrf) lf lr mf mov := by
  obtain ⟨t1, t2, t3, t4, t5, t6, t7, t8, t9, t10⟩ := hr
  have j1 := put_jG (jps := jrp) (g := 4 * a + b) (a := 8 * (144 * (4 * a + b))) (n := 8 * (144 * (4 * a + b) + 144) - 8 * (144 * (4 * a + b))) (by omega) (by omega)
  have j2 := put_jG (jps := jrl) (g := 4 * a + b) (a := 8 * (144 * (4 * a + b))) (n := 8 * (144 * (4 * a + b) + 144) - 8 * (144 * (4 * a + b))) (by omega) (by omega)
  have j3 := put_jG1 (jz := jrz) (g := 4 * a + b) (a := 144 * (4 * a + b)) (n := 144 * (4 * a + b) + 144 - 144 * (4 * a + b)) rfl (by omega)
  have j4 := put_eF (jrf := jrf) (g := 4 * a + b) (a := 144 * (4 * a + b)) (n := 144 * (4 * a + b) + 144 - 144 * (4 * a + b)) rfl (by omega)
  refine ⟨room_le t1, room_lt t2, room_lt t3, m_put_n8 t4, tR_grid h ha hb q1 q2 q3 hbig j1 j2 j3 t5, ?_, oZ_G j1 j2 j3 t7, oZ_G j1 j2 j4 t8, t9, t10⟩
  rw [cF_room]
  exact tR_grid h ha hb q1 q2 q3 hbig j1 j2 j4 t6
theorem iR_got {rps rln rzs jrp jrl jrz : Nat → Nat} {jrf : Nat → Option Nat} {lf lr mf mov : Nat} (h : iA L Rz C bd pr wd ht sta jp jw jh) (hc : iC Rz C pr bd wd ht cs co ch) (hr : iR L Rz C bd pr wd ht sta rps rln rzs jrp jrl jrz jrf lf lr mf mov) : (∀ y, y < L → rps ((sta cs + co) * L + y) = jrp (8 * ch + y)) ∧ (∀ y, y < L → rln ((sta cs + co) * L + y) = jrl (8 * ch + y)) ∧ rzs (sta cs + co) = jrz ch ∧ m_gf (m_first rps (sta cs + co) L) L = oI (jrf ch) := by
  obtain ⟨h1, h2, h3⟩ := hc
  obtain ⟨q, e, hq, he, c1, c2⟩ := co_at (Rz := Rz) h.2.2.2.1 h1 h2
  rw [← h3] at c2
  obtain ⟨a1, a2, a3⟩ := hr.2.2.2.2.1 cs h1 q hq e he
  obtain ⟨-, -, a4⟩ := hr.2.2.2.2.2.1 cs h1 q hq e he
  rw [← c1, ← c2] at a1 a2 a3 a4
  exact ⟨a1, a2, a3, gf_eF a4⟩
end IC

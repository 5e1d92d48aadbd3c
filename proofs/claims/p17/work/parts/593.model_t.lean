/-! what was told, in both, when the picture changes -/
theorem mlt {B t L r : Nat} (hr : r < L) : B * L + r < t * L ↔ B < t :=
  ⟨fun h => Nat.lt_of_mul_lt_mul_right (a := L) (by omega), fun h => m_in h hr⟩
theorem mle {B t L r : Nat} (hr : r < L) : t * L ≤ B * L + r ↔ t ≤ B := by
  have := mlt (B := B) (t := t) hr
  constructor
  · intro h
    rcases Nat.lt_or_ge B t with q | q
    · exact absurd (this.mpr q) (by omega)
    · exact q
  · intro h
    rcases Nat.lt_or_ge (B * L + r) (t * L) with q | q
    · exact absurd (this.mp q) (by omega)
    · exact q
theorem room_eq {f : Nat → Nat} {t y z k j : Nat} : m_room f t y z k j = if t ≤ j ∧ j < t + z then 0 else if t + z ≤ j ∧ j < t + z + k then f (t + y + (j - (t + z))) else f j := by
  unfold m_room m_put va_cpy
  rw [Nat.add_sub_cancel_left]
theorem room_at {f : Nat → Nat} {t y z k L B r : Nat} (hr : r < L) : m_room f (t * L) (y * L) (z * L) (k * L) (B * L + r) = if t ≤ B ∧ B < t + z then 0 else if t + z ≤ B ∧ B < t + z + k then f ((t + y + (B - (t + z))) * L + r) else f (B * L + r) := by
  have e1 : t * L + z * L = (t + z) * L := (Nat.add_mul _ _ _).symm
  have e2 : (t + z) * L + k * L = (t + z + k) * L := (Nat.add_mul _ _ _).symm
  have e3 : t * L + y * L = (t + y) * L := (Nat.add_mul _ _ _).symm
  rw [room_eq, e1, e2, e3]
  by_cases c1 : t ≤ B ∧ B < t + z
  · rw [if_pos c1, if_pos ⟨(mle hr).mpr c1.1, (mlt hr).mpr c1.2⟩]
  · rw [if_neg c1, if_neg (fun q => c1 ⟨(mle hr).mp q.1, (mlt hr).mp q.2⟩)]
    by_cases c2 : t + z ≤ B ∧ B < t + z + k
    · rw [if_pos c2, if_pos ⟨(mle hr).mpr c2.1, (mlt hr).mpr c2.2⟩]
      congr 1
      have e4 : B * L = (B - (t + z)) * L + (t + z) * L := by rw [← Nat.add_mul, Nat.sub_add_cancel c2.1]
      rw [Nat.add_mul (t + y) (B - (t + z)) L]
      omega
    · rw [if_neg c2, if_neg (fun q => c2 ⟨(mle hr).mp q.1, (mlt hr).mp q.2⟩)]
/-- of components that there are not, nothing is told in the reference -/
def oZ (C : Nat) (jps jln jz : Nat → Nat) : Prop := ∀ B, B < 1728 → C ≤ B / 576 → jz B = 0 ∧ ∀ y, y < 8 → jps (8 * B + y) = 0 ∧ jln (8 * B + y) = 0
section TRG
variable {L Rz C : Nat} {bd pr wd ht sta jp jw jh tps tln tzs jps jln jz jps2 jln2 jz2 : Nat → Nat} {a b c0 d0 e0 : Nat}
theorem mB_lim {n s q e : Nat} (h : shp sta pr bd wd ht n) (hs : s < n) (hq : q < pr s * bd s) (he : e < wd s * ht s) : mB Rz wd ht s q e / 144 = gSl Rz s := by
  have a1 := q_fit hq he
  have a2 := (sz_lim h hs).2.2
  unfold mB
  omega
theorem mB_12 {s q e : Nat} (hR : 1 ≤ Rz ∧ Rz ≤ 4) (hC : C ≤ 3) (h : shp sta pr bd wd ht (C * Rz)) (hs : s < C * Rz) (hq : q < pr s * bd s) (he : e < wd s * ht s) : mB Rz wd ht s q e < 1728 := by
  have a1 := mB_lim (Rz := Rz) h hs hq he
  have a2 := gSl_lt hR hC hs
  omega
theorem cB_lim {n s q e : Nat} (h : shp sta pr bd wd ht n) (hs : s < n) (hq : q < pr s * bd s) (he : e < wd s * ht s) : sta s ≤ cB sta wd ht s q e ∧ cB sta wd ht s q e < sta (s + 1) := by
  have a1 := q_fit hq he
  have a2 := h.1 s hs
  unfold cB
  omega
/-- the same rows under another number of slots: the core of grid and component -/
theorem tR_room {sta2 pr2 wd2 ht2 bd2 : Nat → Nat} {n2 t old fr k : Nat}
    (hc : ∀ s, s < n2 → ∀ q, q < pr2 s * bd2 s → ∀ e, e < wd2 s * ht2 s →
      (t ≤ cB sta2 wd2 ht2 s q e ∧ cB sta2 wd2 ht2 s q e < t + fr ∧ jz2 (mB Rz wd2 ht2 s q e) = 0 ∧ ∀ y, y < 8 → jps2 (8 * mB Rz wd2 ht2 s q e + y) = 0 ∧ jln2 (8 * mB Rz wd2 ht2 s q e + y) = 0) ∨
      ((s < C * Rz ∧ q < pr s * bd s ∧ e < wd s * ht s) ∧ mB Rz wd2 ht2 s q e = mB Rz wd ht s q e ∧ ((cB sta2 wd2 ht2 s q e < t ∧ cB sta2 wd2 ht2 s q e = cB sta wd ht s q e) ∨ (t + fr ≤ cB sta2 wd2 ht2 s q e ∧ cB sta2 wd2 ht2 s q e < t + fr + k ∧ t + old + (cB sta2 wd2 ht2 s q e - (t + fr)) = cB sta wd ht s q e)) ∧ jz2 (mB Rz wd ht s q e) = jz (mB Rz wd ht s q e) ∧ ∀ y, y < 8 → jps2 (8 * mB Rz wd ht s q e + y) = jps (8 * mB Rz wd ht s q e + y) ∧ jln2 (8 * mB Rz wd ht s q e + y) = jln (8 * mB Rz wd ht s q e + y)))
    (hL : L ≤ 8) (hT : tR sta pr bd wd ht tps tln tzs jps jln jz (C * Rz) Rz L) :
    tR sta2 pr2 bd2 wd2 ht2 (m_room tps (t * L) (old * L) (fr * L) (k * L)) (m_room tln (t * L) (old * L) (fr * L) (k * L)) (m_room tzs t old fr k) jps2 jln2 jz2 n2 Rz L := by
  intro s hs q hq e he
  rcases hc s hs q hq e he with ⟨h1, h2, h3, h4⟩ | ⟨⟨h1, h2, h3⟩, hm, hB, h5, h6⟩
  · refine ⟨fun y hy => ?_, fun y hy => ?_, ?_⟩
    · rw [room_at hy, if_pos ⟨h1, h2⟩, (h4 y (by omega)).1]
    · rw [room_at hy, if_pos ⟨h1, h2⟩, (h4 y (by omega)).2]
    · rw [room_eq, if_pos ⟨h1, h2⟩, h3]
  · obtain ⟨g1, g2, g3⟩ := hT s h1 q h2 e h3
    rcases hB with ⟨b1, b2⟩ | ⟨b1, b2, b3⟩
    · refine ⟨fun y hy => ?_, fun y hy => ?_, ?_⟩
      · rw [room_at hy, if_neg (by omega), if_neg (by omega), hm, b2, (h6 y (by omega)).1]; exact g1 y hy
      · rw [room_at hy, if_neg (by omega), if_neg (by omega), hm, b2, (h6 y (by omega)).2]; exact g2 y hy
      · rw [room_eq, if_neg (by omega), if_neg (by omega), hm, b2, h5]; exact g3
    · refine ⟨fun y hy => ?_, fun y hy => ?_, ?_⟩
      · rw [room_at hy, if_neg (by omega), if_pos ⟨b1, b2⟩, hm, b3, (h6 y (by omega)).1]; exact g1 y hy
      · rw [room_at hy, if_neg (by omega), if_pos ⟨b1, b2⟩, hm, b3, (h6 y (by omega)).2]; exact g2 y hy
      · rw [room_eq, if_neg (by omega), if_pos ⟨b1, b2⟩, hm, b3, h5]; exact g3
/-- told rows behind a grid -/
def jGr (g : Nat) (jps jps2 : Nat → Nat) : Prop := ∀ B, B < 1728 → ∀ y, y < 8 → jps2 (8 * B + y) = if B / 144 = g then 0 else jps (8 * B + y)
def jG1 (g : Nat) (jz jz2 : Nat → Nat) : Prop := ∀ B, B < 1728 → jz2 B = if B / 144 = g then 0 else jz B
theorem tR_grid (h : iA L Rz C bd pr wd ht sta jp jw jh) (ha : a < C) (hb : b < Rz) (q1 : 1 ≤ c0 ∧ c0 ≤ 4) (q2 : 1 ≤ d0 ∧ d0 ≤ 4) (q3 : 1 ≤ e0 ∧ e0 ≤ 3) (hbig : sta (C * Rz) - (pr (a * Rz + b) * bd (a * Rz + b) * (wd (a * Rz + b) * ht (a * Rz + b))) + (c0 * bd (a * Rz + b) * d0 * e0) ≤ 400)
    (j1 : jGr (4 * a + b) jps jps2) (j2 : jGr (4 * a + b) jln jln2) (j3 : jG1 (4 * a + b) jz jz2) (hT : tR sta pr bd wd ht tps tln tzs jps jln jz (C * Rz) Rz L) :
    tR (m_starts (va_up pr (a * Rz + b) c0) bd (va_up wd (a * Rz + b) d0) (va_up ht (a * Rz + b) e0) sta (C * Rz)) (va_up pr (a * Rz + b) c0) bd (va_up wd (a * Rz + b) d0) (va_up ht (a * Rz + b) e0)
      (m_room tps ((sta (a * Rz + b)) * L) ((pr (a * Rz + b) * bd (a * Rz + b) * (wd (a * Rz + b) * ht (a * Rz + b))) * L) ((c0 * bd (a * Rz + b) * d0 * e0) * L) (((sta (C * Rz)) - sta (a * Rz + b) - (pr (a * Rz + b) * bd (a * Rz + b) * (wd (a * Rz + b) * ht (a * Rz + b)))) * L))
      (m_room tln ((sta (a * Rz + b)) * L) ((pr (a * Rz + b) * bd (a * Rz + b) * (wd (a * Rz + b) * ht (a * Rz + b))) * L) ((c0 * bd (a * Rz + b) * d0 * e0) * L) (((sta (C * Rz)) - sta (a * Rz + b) - (pr (a * Rz + b) * bd (a * Rz + b) * (wd (a * Rz + b) * ht (a * Rz + b)))) * L))
      (m_room tzs (sta (a * Rz + b)) (pr (a * Rz + b) * bd (a * Rz + b) * (wd (a * Rz + b) * ht (a * Rz + b))) (c0 * bd (a * Rz + b) * d0 * e0) ((sta (C * Rz)) - sta (a * Rz + b) - (pr (a * Rz + b) * bd (a * Rz + b) * (wd (a * Rz + b) * ht (a * Rz + b))))) jps2 jln2 jz2 (C * Rz) Rz L := by
  have hA2 := iA_grid h ha hb q1 q2 q3 hbig
  have hs0 : a * Rz + b < C * Rz := m_in ha hb
  have hin := iA_in h hs0
  have hsh := h.2.2.2.1
  have hR := h.2.1
  have hg : gSl Rz (a * Rz + b) = 4 * a + b := gSl_at hb
  have hlo : ∀ k, k ≤ a * Rz + b → _ := fun k hk => gr_le (c0 := c0) (d0 := d0) (e0 := e0) h (k := k) hk hs0
  have hhi : ∀ k, a * Rz + b < k → k ≤ C * Rz → _ := fun k hk hn => gr_gt (c0 := c0) (d0 := d0) (e0 := e0) h (k := k) hk hn
  have e1 : c0 * bd (a * Rz + b) * d0 * e0 = c0 * bd (a * Rz + b) * (d0 * e0) := Nat.mul_assoc _ _ _
  rw [e1]
  refine tR_room (fun s hs q hq e he => ?_) h.1.2 hT
  have hm2 := mB_lim (Rz := Rz) hA2.2.2.2.1 hs hq he
  have hm3 := mB_12 (Rz := Rz) hR h.2.2.1.2 hA2.2.2.2.1 hs hq he
  by_cases c : s = a * Rz + b
  · left
    subst c
    rw [va_up_self] at hq
    rw [va_up_self, va_up_self] at he
    have f1 := q_fit hq he
    have l1 := hlo _ (Nat.le_refl _)
    rw [hg] at hm2
    refine ⟨?_, ?_, ?_, fun y hy => ⟨?_, ?_⟩⟩
    · unfold cB; omega
    · unfold cB; rw [va_up_self, va_up_self, l1]; omega
    · rw [j3 _ hm3, if_pos hm2]
    · rw [j1 _ hm3 y hy, if_pos hm2]
    · rw [j2 _ hm3 y hy, if_pos hm2]
  · right
    have hne : ¬ gSl Rz s = 4 * a + b := fun q => c (gSl_inj hR (q.trans hg.symm))
    rw [va_up_ne _ _ c] at hq
    rw [va_up_ne _ _ c, va_up_ne _ _ c] at he
    have em : mB Rz (va_up wd (a * Rz + b) d0) (va_up ht (a * Rz + b) e0) s q e = mB Rz wd ht s q e := by unfold mB; rw [va_up_ne _ _ c, va_up_ne _ _ c]
    rw [em] at hm2 hm3
    have ec : ∀ st : Nat → Nat, cB st (va_up wd (a * Rz + b) d0) (va_up ht (a * Rz + b) e0) s q e = st s + (q * (wd s * ht s) + e) := fun st => by unfold cB; rw [va_up_ne _ _ c, va_up_ne _ _ c, Nat.add_assoc]
    have ec0 : cB sta wd ht s q e = sta s + (q * (wd s * ht s) + e) := by unfold cB; rw [Nat.add_assoc]
    have hcl := cB_lim hsh hs hq he
    refine ⟨⟨hs, hq, he⟩, em, ?_, ?_, fun y hy => ⟨?_, ?_⟩⟩
    · rw [ec, ec0]
      rcases Nat.lt_or_ge s (a * Rz + b) with w | w
      · left
        have l1 := hlo s (by omega)
        have l2 := shp_le hsh (a * Rz + b) (s + 1) (by omega) (by omega)
        rw [ec0] at hcl
        omega
      · right
        have l1 := hhi s (by omega) (by omega)
        have l2 := shp_le hsh s (a * Rz + b + 1) (by omega) (by omega)
        have l3 := hsh.1 _ hs0
        have l4 := shp_le hsh (C * Rz) (s + 1) (by omega) (by omega)
        rw [ec0] at hcl
        omega
    · rw [j3 _ hm3, if_neg (by rw [hm2]; exact hne)]
    · rw [j1 _ hm3 y hy, if_neg (by rw [hm2]; exact hne)]
    · rw [j2 _ hm3 y hy, if_neg (by rw [hm2]; exact hne)]
/-- told rows behind a component more -/
theorem tR_comp (h : iA L Rz C bd pr wd ht sta jp jw jh) (hC3 : C < 3) (hz : oZ C jps jln jz) (hT : tR sta pr bd wd ht tps tln tzs jps jln jz (C * Rz) Rz L) {T fr : Nat} (hT1 : T = sta (C * Rz)) (hfr : fr = m_starts (m_put m_one (C * Rz) Rz pr) (m_put m_b13 (C * Rz) Rz bd) (m_put m_one (C * Rz) Rz wd) (m_put m_one (C * Rz) Rz ht) sta ((C + 1) * Rz) ((C + 1) * Rz) - sta (C * Rz)) :
    tR (m_starts (m_put m_one (C * Rz) Rz pr) (m_put m_b13 (C * Rz) Rz bd) (m_put m_one (C * Rz) Rz wd) (m_put m_one (C * Rz) Rz ht) sta ((C + 1) * Rz)) (m_put m_one (C * Rz) Rz pr) (m_put m_b13 (C * Rz) Rz bd) (m_put m_one (C * Rz) Rz wd) (m_put m_one (C * Rz) Rz ht)
      (m_room tps (T * L) (0 * L) (fr * L) ((T - T - 0) * L)) (m_room tln (T * L) (0 * L) (fr * L) ((T - T - 0) * L)) (m_room tzs T 0 fr (T - T - 0)) jps jln jz ((C + 1) * Rz) Rz L := by
  have hA2 := iA_comp h hC3
  have e : (C + 1) * Rz = C * Rz + Rz := Nat.succ_mul _ _
  have hsh := h.2.2.2.1
  have hR := h.2.1
  refine tR_room (fun s hs q hq e9 he => ?_) h.1.2 hT
  have hcl2 := cB_lim hA2.2.2.2.1 hs hq he
  have htop := shp_le hA2.2.2.2.1 ((C + 1) * Rz) (s + 1) (by omega) (Nat.le_refl _)
  by_cases c : s < C * Rz
  · right
    rw [put_lo c, put_lo c] at hq
    rw [put_lo c, put_lo c] at he
    have em : mB Rz (m_put m_one (C * Rz) Rz wd) (m_put m_one (C * Rz) Rz ht) s q e9 = mB Rz wd ht s q e9 := by unfold mB; rw [put_lo c, put_lo c]
    have ec : cB (m_starts (m_put m_one (C * Rz) Rz pr) (m_put m_b13 (C * Rz) Rz bd) (m_put m_one (C * Rz) Rz wd) (m_put m_one (C * Rz) Rz ht) sta ((C + 1) * Rz)) (m_put m_one (C * Rz) Rz wd) (m_put m_one (C * Rz) Rz ht) s q e9 = cB sta wd ht s q e9 := by unfold cB; rw [put_lo c, put_lo c, cm_lo h (by omega)]
    have hcl := cB_lim hsh c hq he
    have l2 := shp_le hsh (C * Rz) (s + 1) (by omega) (Nat.le_refl _)
    refine ⟨⟨c, hq, he⟩, em, Or.inl ⟨?_, ec⟩, rfl, fun y hy => ⟨rfl, rfl⟩⟩
    rw [ec, hT1]; omega
  · left
    have hm2 := mB_lim (Rz := Rz) hA2.2.2.2.1 hs hq he
    have hm3 := mB_12 (Rz := Rz) hR hA2.2.2.1.2 hA2.2.2.2.1 hs hq he
    have l1 := shp_le hA2.2.2.2.1 s (C * Rz) (by omega) (by omega)
    rw [cm_lo h (Nat.le_refl _)] at l1
    have hg : C ≤ gSl Rz s / 4 := by
      obtain ⟨r, hr⟩ : ∃ r, s = C * Rz + r := ⟨s - C * Rz, by omega⟩
      subst hr
      rw [gSl_at (by omega)]
      omega
    obtain ⟨z1, z2⟩ := hz _ hm3 (by rw [show (576 : Nat) = 144 * 4 from rfl, ← Nat.div_div_eq_div_mul, hm2]; exact hg)
    exact ⟨by rw [hT1]; omega, by rw [hT1, hfr]; omega, z1, z2⟩
end TRG
section TRP
variable {L Rz C n : Nat} {bd pr wd ht sta tps tln tzs jps jln jz : Nat → Nat} {cs co ch a v w : Nat}
theorem co_at (h : shp sta pr bd wd ht n) (hcs : cs < n) (hco : co < pr cs * bd cs * (wd cs * ht cs)) : ∃ q e, q < pr cs * bd cs ∧ e < wd cs * ht cs ∧ sta cs + co = cB sta wd ht cs q e ∧ 144 * gSl Rz cs + co = mB Rz wd ht cs q e := by
  have h1 := (sz_lim h hcs).2.1
  have e1 := Nat.div_add_mod' co (wd cs * ht cs)
  refine ⟨co / (wd cs * ht cs), co % (wd cs * ht cs), Nat.div_lt_of_lt_mul (by rw [Nat.mul_comm]; exact hco), Nat.mod_lt _ h1, ?_, ?_⟩
  · unfold cB; omega
  · unfold mB; omega
theorem tR_pass (h : shp sta pr bd wd ht n) (hR : 1 ≤ Rz ∧ Rz ≤ 4) (hL : L ≤ 8) (hcs : cs < n) (hco : co < pr cs * bd cs * (wd cs * ht cs)) (hch : ch = 144 * gSl Rz cs + co) (ha : a < L) (hT : tR sta pr bd wd ht tps tln tzs jps jln jz n Rz L) :
    tR sta pr bd wd ht (va_up tps ((sta cs + co) * L + a) v) (va_up tln ((sta cs + co) * L + a) w) tzs (va_up jps (8 * ch + a) v) (va_up jln (8 * ch + a) w) jz n Rz L := by
  obtain ⟨q0, e0, hq0, he0, c1, c2⟩ := co_at (Rz := Rz) h hcs hco
  rw [← hch] at c2
  intro s hs q hq e he
  obtain ⟨g1, g2, g3⟩ := hT s hs q hq e he
  by_cases c : cB sta wd ht s q e = sta cs + co
  · have hi := cB_inj h hs hq he hcs hq0 he0 (c.trans c1)
    obtain ⟨rfl, rfl, rfl⟩ := hi
    rw [c, ← c2]
    rw [c] at g1 g2 g3
    rw [← c2] at g1 g2 g3
    refine ⟨fun y hy => ?_, fun y hy => ?_, g3⟩
    · by_cases cy : y = a
      · subst cy; rw [va_up_self, va_up_self]
      · rw [va_up_ne _ _ (by omega), va_up_ne _ _ (by omega)]; exact g1 y hy
    · by_cases cy : y = a
      · subst cy; rw [va_up_self, va_up_self]
      · rw [va_up_ne _ _ (by omega), va_up_ne _ _ (by omega)]; exact g2 y hy
  · have hm : ¬ mB Rz wd ht s q e = ch := fun k => by
      obtain ⟨rfl, rfl, rfl⟩ := mB_inj h hR hs hq he hcs hq0 he0 (k.trans c2)
      exact c c1.symm
    refine ⟨fun y hy => ?_, fun y hy => ?_, g3⟩
    · rw [va_up_ne _ _ (fun k => c (q_divm k hy ha).1), va_up_ne _ _ (by omega)]; exact g1 y hy
    · rw [va_up_ne _ _ (fun k => c (q_divm k hy ha).1), va_up_ne _ _ (by omega)]; exact g2 y hy
theorem tR_zero (h : shp sta pr bd wd ht n) (hR : 1 ≤ Rz ∧ Rz ≤ 4) (hcs : cs < n) (hco : co < pr cs * bd cs * (wd cs * ht cs)) (hch : ch = 144 * gSl Rz cs + co) (hT : tR sta pr bd wd ht tps tln tzs jps jln jz n Rz L) :
    tR sta pr bd wd ht tps tln (va_up tzs (sta cs + co) v) jps jln (va_up jz ch v) n Rz L := by
  obtain ⟨q0, e0, hq0, he0, c1, c2⟩ := co_at (Rz := Rz) h hcs hco
  rw [← hch] at c2
  intro s hs q hq e he
  obtain ⟨g1, g2, g3⟩ := hT s hs q hq e he
  refine ⟨g1, g2, ?_⟩
  by_cases c : cB sta wd ht s q e = sta cs + co
  · obtain ⟨rfl, rfl, rfl⟩ := cB_inj h hs hq he hcs hq0 he0 (c.trans c1)
    rw [c, ← c2, va_up_self, va_up_self]
  · have hm : ¬ mB Rz wd ht s q e = ch := fun k => by
      obtain ⟨rfl, rfl, rfl⟩ := mB_inj h hR hs hq he hcs hq0 he0 (k.trans c2)
      exact c c1.symm
    rw [va_up_ne _ _ c, va_up_ne _ _ hm]; exact g3
end TRP

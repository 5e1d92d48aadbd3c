/-! both read the same: packets -/
section RF9
variable {sta pr bd wd ht : Nat → Nat} {n Rz L C : Nat} {f jf : Nat → Nat} {N : Nat} {jz jps jln V1 V2 : Nat → Nat}
/-- the first layer with passes of a block, and that nothing was read of the layers from y on -/
def fq1 (L : Nat) (Y : hS rT) (Z : kS) (c m y : Nat) : Prop := (∀ a, y ≤ a → a < L → Y.1 (c * L + a) = 0) ∧ (Z.2.2.2.2.1 m = none → ∀ a, a < L → Y.1 (c * L + a) = 0) ∧ ∀ b, Z.2.2.2.2.1 m = some b → b < L ∧ 0 < Y.1 (c * L + b) ∧ ∀ a, a < b → Y.1 (c * L + a) = 0
theorem mv_self {c m y : Nat} {Y Y2 : hS rT} {Z Z2 : kS} (hy : y < L) (hm : mvQ L c m y Y Y2 Z Z2) (h : fq1 L Y Z c m y) : fq1 L Y2 Z2 c m (y + 1) := by
  obtain ⟨h1, h2, h3⟩ := h
  rcases hm with ⟨e1, e2, -, -, -⟩ | ⟨k, l, z, hk, e1, -, -, hc⟩
  · unfold fq1
    rw [e1, e2]
    exact ⟨fun a ha hL => h1 a (by omega) hL, h2, h3⟩
  · unfold fq1
    rw [e1]
    refine ⟨fun a ha hL => by rw [va_up_ne _ _ (by omega)]; exact h1 a (by omega) hL, fun q => ?_, fun b q => ?_⟩
    · rcases hc with ⟨c1, c2, -⟩ | ⟨c1, c2, -⟩
      · rw [c2, va_up_self] at q; cases q
      · rw [c2] at q; exact absurd q c1
    · rcases hc with ⟨c1, c2, -⟩ | ⟨c1, c2, -⟩
      · rw [c2, va_up_self] at q
        obtain rfl : y = b := Option.some.inj q
        refine ⟨hy, by rw [va_up_self]; omega, fun a ha => ?_⟩
        rw [va_up_ne _ _ (by omega)]
        exact h2 c1 a (by omega)
      · rw [c2] at q
        obtain ⟨g1, g2, g3⟩ := h3 b q
        have hb : b < y := by
          rcases Nat.lt_or_ge b y with w | w
          · exact w
          · rw [h1 b w g1] at g2; exact absurd g2 (Nat.lt_irrefl 0)
        refine ⟨g1, by rw [va_up_ne _ _ (by omega)]; exact g2, fun a ha => ?_⟩
        rw [va_up_ne _ _ (by omega)]
        exact g3 a ha
theorem mv_oth {c m y c2 m2 y2 : Nat} {Y Y2 : hS rT} {Z Z2 : kS} (hy : y < L) (hc2 : ¬ c2 = c) (hm2 : ¬ m2 = m) (hm : mvQ L c m y Y Y2 Z Z2) (h : fq1 L Y Z c2 m2 y2) : fq1 L Y2 Z2 c2 m2 y2 := by
  obtain ⟨h1, h2, h3⟩ := h
  rcases hm with ⟨e1, e2, -, -, -⟩ | ⟨k, l, z, hk, e1, -, -, hc⟩
  · unfold fq1
    rw [e1, e2]
    exact ⟨h1, h2, h3⟩
  · have e2 : Z2.2.2.2.2.1 m2 = Z.2.2.2.2.1 m2 := by
      rcases hc with ⟨c1, w, -⟩ | ⟨c1, w, -⟩
      · rw [w, va_up_ne _ _ hm2]
      · rw [w]
    have e3 : ∀ a, a < L → Y2.1 (c2 * L + a) = Y.1 (c2 * L + a) := fun a ha => by rw [e1, va_up_ne _ _ (fun w => hc2 (q_divm w ha hy).1)]
    refine ⟨fun a ha hL => by rw [e3 a hL]; exact h1 a ha hL, fun q a hL => by rw [e3 a hL]; exact h2 (by rw [← e2]; exact q) a hL, fun b q => ?_⟩
    obtain ⟨g1, g2, g3⟩ := h3 b (by rw [← e2]; exact q)
    exact ⟨g1, by rw [e3 b g1]; exact g2, fun a ha => by rw [e3 a (by omega)]; exact g3 a ha⟩
/-- of components that there are not, nothing was read in the reference -/
def oQr (C : Nat) (jrz : Nat → Nat) (jrf : Nat → Option Nat) (jrp jrl : Nat → Nat) : Prop := ∀ B, B < 1728 → C ≤ B / 576 → jrz B = 0 ∧ jrf B = none ∧ ∀ y, y < 8 → jrp (8 * B + y) = 0 ∧ jrl (8 * B + y) = 0
theorem mv_out {c m y : Nat} {Y Y2 : hS rT} {Z Z2 : kS} (hL : L ≤ 8) (hy : y < L) (hC : m / 576 < C) (hm : mvQ L c m y Y Y2 Z Z2) (h : oQr C Z.2.2.2.1 Z.2.2.2.2.1 Z.2.2.2.2.2.1 Z.2.2.2.2.2.2.1) : oQr C Z2.2.2.2.1 Z2.2.2.2.2.1 Z2.2.2.2.2.2.1 Z2.2.2.2.2.2.2.1 := by
  rcases hm with ⟨-, e2, e3, e4, e5⟩ | ⟨k, l, z, hk, -, e4, e5, hc⟩
  · rw [e2, e3, e4, e5]; exact h
  · intro B hB hCB
    obtain ⟨h1, h2, h3⟩ := h B hB hCB
    have hne : ¬ B = m := fun w => by subst w; omega
    rw [e4, e5]
    refine ⟨?_, ?_, fun a ha => ⟨?_, ?_⟩⟩
    · rcases hc with ⟨-, -, w⟩ | ⟨-, -, w⟩
      · rw [w, va_up_ne _ _ hne]; exact h1
      · rw [w]; exact h1
    · rcases hc with ⟨-, w, -⟩ | ⟨-, w, -⟩
      · rw [w, va_up_ne _ _ hne]; exact h2
      · rw [w]; exact h2
    · rw [va_up_ne _ _ (by omega)]; exact (h3 a ha).1
    · rw [va_up_ne _ _ (by omega)]; exact (h3 a ha).2
/-- all that holds while both read -/
def SQ (sta pr bd wd ht : Nat → Nat) (n Rz L C : Nat) (cnt : Nat → Nat → Nat → Nat) (Y : hS rT) (Z : kS) : Prop := QR sta pr bd wd ht n Rz L Y Z ∧ oQr C Z.2.2.2.1 Z.2.2.2.2.1 Z.2.2.2.2.2.1 Z.2.2.2.2.2.2.1 ∧ ∀ s, s < n → ∀ q, q < pr s * bd s → ∀ e, e < wd s * ht s → fq1 L Y Z (cB sta wd ht s q e) (mB Rz wd ht s q e) (cnt s q e)
theorem blk_flt {vs1 vs2 q : Nat → Nat} {r y b le : Nat} {Y : hS rT} (h : ¬ Y.2.2.2.2.2.2.2.2.2.1 = 0) : (t_blk (bitR f N) (fpR f N) (flR f N) vs1 vs2 q r L y b le Y).2.2.2.2.2.2.2.2.2.1 = Y.2.2.2.2.2.2.2.2.2.1 := by
  unfold t_blk
  split
  · rw [bit_flt h, if_pos rfl]
  · obtain ⟨T1, eT1⟩ : ∃ z, z = t_rows (bitR f N) vs1 (y + 1) q r (0, Y.2.2.2.2.2.1, Y.2.2.2.2.2.2.1, Y.2.2.2.2.2.2.2.2.2) := ⟨_, rfl⟩
    have e1 : T1.2.2.2 = Y.2.2.2.2.2.2.2.2.2 := by rw [eT1]; exact rows_flt r _ h
    rw [← eT1]
    split
    · exact congrArg Prod.fst e1
    · obtain ⟨T2, eT2⟩ : ∃ z, z = t_rows (bitR f N) vs2 31 q r (0, Y.2.2.2.2.2.2.2.1, Y.2.2.2.2.2.2.2.2.1, T1.2.2.2) := ⟨_, rfl⟩
      have e2 : T2.2.2.2 = T1.2.2.2 := by rw [eT2]; exact rows_flt r _ (by show ¬ T1.2.2.2.1 = 0; rw [e1]; exact h)
      rw [← eT2]
      have e4 : (t_z T2 le).1 = Y.2.2.2.2.2.2.2.2.2.1 := by rw [tz_flt (by rw [e2, e1]; exact h), e2, e1]
      exact (b2_flt (by show ¬ (t_z T2 le).1 = 0; rw [e4]; exact h)).trans e4
theorem go_flt {step : Nat → hS rT → hS rT} (hs : ∀ j Y, ¬ Y.2.2.2.2.2.2.2.2.2.1 = 0 → (step j Y).2.2.2.2.2.2.2.2.2.1 = Y.2.2.2.2.2.2.2.2.2.1) : ∀ (m j : Nat) (Y : hS rT), ¬ Y.2.2.2.2.2.2.2.2.2.1 = 0 → (t_go step m j Y).2.2.2.2.2.2.2.2.2.1 = Y.2.2.2.2.2.2.2.2.2.1
  | 0, _, _, _ => rfl
  | m + 1, j, Y, h => by
    rw [t_go, go_flt hs m (j + 1) _ (by rw [hs j Y h]; exact h), hs j Y h]
theorem st_Cr {s p y j : Nat} {Y : hS rT} : t_st (bitR f N) (fpR f N) (flR f N) V1 V2 L y (sta s + p * bd s * (wd s * ht s)) (wd s * ht s) (wd s) (ht s) j Y = t_blk (bitR f N) (fpR f N) (flR f N) V1 V2 (r_qq (aB sta wd ht s (p * bd s + j / (wd s * ht s))) (wd s) (ht s) (j % (wd s * ht s))) (m_lev (wd s) (ht s) + 1) L y (sta s + p * bd s * (wd s * ht s) + j) (aB sta wd ht s (p * bd s + j / (wd s * ht s)) + j % (wd s * ht s)) Y := by
  have e1 : aB sta wd ht s (p * bd s + j / (wd s * ht s)) = 2 * (sta s + p * bd s * (wd s * ht s) + j / (wd s * ht s) * (wd s * ht s)) := by
    unfold aB
    rw [Nat.add_mul, ← Nat.add_assoc]
  rw [e1]
  rfl
theorem st_Mr (h : shp sta pr bd wd ht n) {s p y j : Nat} {Z : kS} (hs : s < n) (hp : p < pr s) (hj : j < bd s * (wd s * ht s)) (hbg : bd s = m_bnd (gSl Rz s)) : r_st true jf jz jps jln N L (wd s) (ht s) (r_fr (wd s) (ht s) (gSl Rz s) p) (gSl Rz s) p y j Z = r_blk true jf jz jps jln N L (144 * gSl Rz s + (p * bd s + j / (wd s * ht s)) * (wd s * ht s)) (wd s) (ht s) (tB Rz bd s (p * bd s + j / (wd s * ht s))) (j % (wd s * ht s)) y Z := by
  obtain ⟨-, -, -, -, h5, h6⟩ := blk_j (Rz := Rz) h hs hp hj
  unfold r_st r_fr tB
  rw [h5, h6, ← hbg, Nat.add_mul (p * bd s), ← Nat.add_assoc]
set_option maxHeartbeats 4000000 in
theorem go_rd (hf : ∀ j, j < N → f j = jf j) {s p y : Nat} (h : shp sta pr bd wd ht n) (hR : 1 ≤ Rz ∧ Rz ≤ 4) (hL : L ≤ 8) (hgs : ∀ s, s < n → gSl Rz s < 12) (hgC : ∀ s, s < n → gSl Rz s / 4 < C) (hs : s < n) (hp : p < pr s) (hy : y < L) (hbg : bd s = m_bnd (gSl Rz s)) : ∀ (m j : Nat) (cnt : Nat → Nat → Nat → Nat) (Y : hS rT) (Z : kS), j + m = bd s * (wd s * ht s) → Br N Y.2.2.2.2.2.2.2.2.2 Z.2.2.2.2.2.2.2 → (Y.2.2.2.2.2.2.2.2.2.1 = 0 → SQ sta pr bd wd ht n Rz L C cnt Y Z) → (∀ t, t < n → ∀ a, a < pr t * bd t → ∀ x, x < wd t * ht t → sta s + p * bd s * (wd s * ht s) + j ≤ cB sta wd ht t a x → cB sta wd ht t a x < sta s + p * bd s * (wd s * ht s) + bd s * (wd s * ht s) → cnt t a x = y) →
    ∀ (Y2 : hS rT) (Z2 : kS), Y2 = t_go (t_st (bitR f N) (fpR f N) (flR f N) V1 V2 L y (sta s + p * bd s * (wd s * ht s)) (wd s * ht s) (wd s) (ht s)) m j Y → Z2 = r_go (r_st true jf jz jps jln N L (wd s) (ht s) (r_fr (wd s) (ht s) (gSl Rz s) p) (gSl Rz s) p y) m j Z →
    Br N Y2.2.2.2.2.2.2.2.2.2 Z2.2.2.2.2.2.2.2 ∧ (Y2.2.2.2.2.2.2.2.2.2.1 = 0 → SQ sta pr bd wd ht n Rz L C (fun t a x => if sta s + p * bd s * (wd s * ht s) + j ≤ cB sta wd ht t a x ∧ cB sta wd ht t a x < sta s + p * bd s * (wd s * ht s) + bd s * (wd s * ht s) then y + 1 else cnt t a x) Y2 Z2)
  | 0, j, cnt, Y, Z, hj, hb, hH, hc, Y2, Z2, eY, eZ => by
    rw [eY, eZ]
    refine ⟨hb, fun z => ?_⟩
    obtain ⟨a1, a2, a3⟩ := hH z
    refine ⟨a1, a2, fun t ht1 a ha x hx => ?_⟩
    show fq1 L Y Z _ _ (if _ then _ else _)
    rw [if_neg (by omega)]
    exact a3 t ht1 a ha x hx
  | m + 1, j, cnt, Y, Z, hj, hb, hH, hc, Y2, Z2, eY, eZ => by
    have hj2 : j < bd s * (wd s * ht s) := by omega
    by_cases cf : Y.2.2.2.2.2.2.2.2.2.1 = 0
    · obtain ⟨k1, k2, k3, k4, k5, k6⟩ := blk_j (Rz := Rz) h hs hp hj2
      obtain ⟨a1, a2, a3⟩ := hH cf
      rw [t_go] at eY
      rw [r_go, if_pos (by rw [← hb.1]; exact cf)] at eZ
      obtain ⟨Y1, eY1⟩ : ∃ x, x = t_st (bitR f N) (fpR f N) (flR f N) V1 V2 L y (sta s + p * bd s * (wd s * ht s)) (wd s * ht s) (wd s) (ht s) j Y := ⟨_, rfl⟩
      obtain ⟨Z1, eZ1⟩ : ∃ x, x = r_st true jf jz jps jln N L (wd s) (ht s) (r_fr (wd s) (ht s) (gSl Rz s) p) (gSl Rz s) p y j Z := ⟨_, rfl⟩
      rw [← eY1] at eY
      rw [← eZ1] at eZ
      rw [st_Cr, ← k3] at eY1
      rw [st_Mr h hs hp hj2 hbg] at eZ1
      obtain ⟨r1, r2⟩ := blk_rd hf h hR hL hgs hs k1 k2 hy cf hb a1 eY1 eZ1
      have ih := go_rd hf h hR hL hgs hgC hs hp hy hbg m (j + 1) (fun t a x => if cB sta wd ht t a x = sta s + p * bd s * (wd s * ht s) + j then y + 1 else cnt t a x) Y1 Z1 (by omega) r1 (fun z => by
        obtain ⟨g1, g2⟩ := r2 z
        refine ⟨g1, mv_out hL hy ?_ g2 a2, fun t ht1 a ha x hx => ?_⟩
        · have w1 := mB_lim (Rz := Rz) h hs k1 k2
          have w2 := hgC s hs
          rw [show (576 : Nat) = 144 * 4 from rfl, ← Nat.div_div_eq_div_mul, w1]
          exact w2
        · show fq1 L Y1 Z1 _ _ (if _ then _ else _)
          by_cases c : cB sta wd ht t a x = sta s + p * bd s * (wd s * ht s) + j
          · rw [if_pos c]
            obtain ⟨z1, z2, z3⟩ := cB_inj h ht1 ha hx hs k1 k2 (by rw [c, k3])
            subst z1; subst z2; subst z3
            have := a3 t ht1 _ k1 _ k2
            rw [hc t ht1 _ k1 _ k2 (by omega) (by omega)] at this
            exact mv_self hy g2 this
          · rw [if_neg c]
            have c2 : ¬ mB Rz wd ht t a x = mB Rz wd ht s (p * bd s + j / (wd s * ht s)) (j % (wd s * ht s)) := fun w => by
              obtain ⟨z1, z2, z3⟩ := mB_inj h hR ht1 ha hx hs k1 k2 w
              subst z1; subst z2; subst z3
              exact c k3
            exact mv_oth hy (by rw [k3]; exact c) c2 g2 (a3 t ht1 a ha x hx)) (fun t ht1 a ha x hx w1 w2 => by
        show (if _ then _ else _) = y
        rw [if_neg (by omega)]
        exact hc t ht1 a ha x hx (by omega) w2) Y2 Z2 eY eZ
      refine ⟨ih.1, fun z => ?_⟩
      obtain ⟨g1, g2, g3⟩ := ih.2 z
      refine ⟨g1, g2, fun t ht1 a ha x hx => ?_⟩
      have := g3 t ht1 a ha x hx
      have e9 : (if sta s + p * bd s * (wd s * ht s) + (j + 1) ≤ cB sta wd ht t a x ∧ cB sta wd ht t a x < sta s + p * bd s * (wd s * ht s) + bd s * (wd s * ht s) then y + 1 else if cB sta wd ht t a x = sta s + p * bd s * (wd s * ht s) + j then y + 1 else cnt t a x) = (if sta s + p * bd s * (wd s * ht s) + j ≤ cB sta wd ht t a x ∧ cB sta wd ht t a x < sta s + p * bd s * (wd s * ht s) + bd s * (wd s * ht s) then y + 1 else cnt t a x) := by
        by_cases c1 : sta s + p * bd s * (wd s * ht s) + (j + 1) ≤ cB sta wd ht t a x ∧ cB sta wd ht t a x < sta s + p * bd s * (wd s * ht s) + bd s * (wd s * ht s)
        · rw [if_pos c1, if_pos (by omega)]
        · rw [if_neg c1]
          by_cases c2 : cB sta wd ht t a x = sta s + p * bd s * (wd s * ht s) + j
          · rw [if_pos c2, if_pos (by omega)]
          · rw [if_neg c2, if_neg (by omega)]
      show fq1 L Y2 Z2 _ _ (if _ then _ else _)
      rw [← e9]
      exact this
    · have e1 : Y2.2.2.2.2.2.2.2.2.2.1 = Y.2.2.2.2.2.2.2.2.2.1 := by
        rw [eY]
        exact go_flt (fun j Y hY => blk_flt hY) _ _ _ cf
      have e2 : Z2 = Z := by
        rw [eZ]
        exact r_go_stop (Or.inr (by rw [← hb.1]; exact cf))
      have c1 : ¬ Y2.2.2.2.2.2.2.2.2.2.1 = 0 := by rw [e1]; exact cf
      exact ⟨⟨by rw [e1, e2]; exact hb.1, fun z => absurd z c1⟩, fun z => absurd z c1⟩
/-! a head's beginning and end -/
def Er (n : Nat) (u : rS) (s : mS) : Prop := u.1 = s.1 ∧ (u.1 = 0 → u.2.1 = s.2.1 ∧ s.2.1 ≤ n)
theorem Er_beg {u : rS} {s : mS} (h : Er N u s) : Br N (t_rbeg u) (r_beg true s) := ⟨h.1, fun z => ⟨(h.2 z).1, rfl, rfl, rfl, (h.2 z).2⟩⟩
theorem Er_end (hf : ∀ j, j < N → f j = jf j) {u : rS} {s : mS} (h : Br N u s) : Er N (t_rend f N u) (r_fin true jf N s) := by
  obtain ⟨fl, rc, cu, lf⟩ := u
  obtain ⟨fs, a, le, no, la, dr, df⟩ := s
  obtain ⟨h1, h2⟩ := h
  have h1 : fl = fs := h1
  subst h1
  unfold t_rend r_fin
  rw [if_pos rfl]
  by_cases c : fl = 0
  · subst c
    obtain ⟨k1, k2, k3, -, k5⟩ : rc = a ∧ cu = no ∧ la = no ∧ lf = le ∧ a ≤ N := h2 rfl
    clear h2
    subst k1; subst k2; subst k3
    by_cases c5 : la = 255
    · rw [if_pos (show la = 255 from c5), if_pos (show la = 255 ∧ (0 : Nat) = 0 from ⟨c5, rfl⟩)]
      show Er N (m_rb f N 0 rc la 0).2 (r_z (r_ft jf N (0, rc, 0, la, la, dr, df)).2)
      by_cases c3 : N ≤ rc
      · have e : r_ft jf N ((0, rc, 0, la, la, dr, df) : mS) = (false, (1, rc, 0, la, la, dr, df)) := by
          unfold r_ft
          rw [if_pos (Or.inl (show rc = N by omega)), if_pos (show rc = N by omega)]
        rw [rb_end c3, e]
        exact ⟨rfl, fun q => absurd q (by show ¬ 1 = 0; omega)⟩
      · have e0 := hf rc (by omega)
        by_cases c4 : 127 < f rc
        · have e : r_ft jf N ((0, rc, 0, la, la, dr, df) : mS) = (false, (2, rc, 0, la, la, dr, df)) := by
            unfold r_ft
            rw [if_pos (Or.inr ⟨c5, by rw [← e0]; exact c4⟩), if_neg (show ¬ rc = N by omega)]
          rw [rb_stf c3 ⟨c5, c4⟩, e]
          exact ⟨rfl, fun q => absurd q (by show ¬ 2 = 0; omega)⟩
        · have e : r_ft jf N ((0, rc, 0, la, la, dr, df) : mS) = (true, (0, rc + 1, m_rl la, jf rc, jf rc, dr, df)) := by
            unfold r_ft
            rw [if_neg (fun q => q.elim (fun w => by have w : rc = N := w; omega) (fun w => c4 (by rw [e0]; exact w.2)))]
          rw [rb_new c3 (fun q => c4 q.2), e]
          exact ⟨rfl, fun _ => ⟨rfl, by show rc + 1 ≤ N; omega⟩⟩
    · rw [if_neg (show ¬ la = 255 from c5), if_neg (show ¬ (la = 255 ∧ (0 : Nat) = 0) from fun q => c5 q.1)]
      exact ⟨rfl, fun _ => ⟨rfl, k5⟩⟩
  · rw [if_neg (show ¬ (la = 255 ∧ fl = 0) from fun q => c q.2)]
    have e : (if cu = 255 then (bitR f N (fl, rc, cu, 0) false).2 else ((fl, rc, cu, lf) : rS)).1 = fl := by
      split
      · rw [bit_flt (u := (fl, rc, cu, 0)) c]
      · rfl
    exact ⟨e, fun q => absurd (e.symm.trans q) c⟩
end RF9

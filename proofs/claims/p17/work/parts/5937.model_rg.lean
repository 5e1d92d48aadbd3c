/-! both read the same: heads, all packets, the start -/
section RG9
variable {sta pr bd wd ht : Nat → Nat} {n Rz L C : Nat} {f jf : Nat → Nat} {N : Nat} {jz jps jln V1 V2 jw jh pl jro : Nat → Nat}
theorem rend_flt {u : rS} (h : ¬ u.1 = 0) : (t_rend f N u).1 = u.1 := by
  unfold t_rend
  split
  · rw [bit_flt (u := (u.1, u.2.1, u.2.2.1, 0)) h]
  · rfl
theorem fq1_mono {Y : hS rT} {Z : kS} {c m y : Nat} (h : fq1 L Y Z c m y) : fq1 L Y Z c m (y + 1) := ⟨fun a ha hL => h.1 a (by omega) hL, h.2⟩
set_option maxHeartbeats 4000000 in
theorem hd_rd (hf : ∀ j, j < N → f j = jf j) {s p y : Nat} (h : shp sta pr bd wd ht n) (hR : 1 ≤ Rz ∧ Rz ≤ 4) (hL : L ≤ 8) (hgs : ∀ s, s < n → gSl Rz s < 12) (hgC : ∀ s, s < n → gSl Rz s / 4 < C) (hs : s < n) (hp : p < pr s) (hy : y < L) (hbg : bd s = m_bnd (gSl Rz s)) {cnt : Nat → Nat → Nat → Nat} {Y : hS rT} {Z : kS} (hE : Er N Y.2.2.2.2.2.2.2.2.2 Z.2.2.2.2.2.2.2) (hH : SQ sta pr bd wd ht n Rz L C cnt Y Z) (hc : ∀ t, t < n → ∀ a, a < pr t * bd t → ∀ x, x < wd t * ht t → sta s + p * bd s * (wd s * ht s) ≤ cB sta wd ht t a x → cB sta wd ht t a x < sta s + p * bd s * (wd s * ht s) + bd s * (wd s * ht s) → cnt t a x = y)
    {Y1 Y2 : hS rT} {Z2 : kS} (eY1 : Y1 = t_hd (bitR f N) (fpR f N) (flR f N) V1 V2 L y (sta s + p * bd s * (wd s * ht s)) (wd s * ht s) (bd s) (wd s) (ht s) (h_s (t_rbeg Y.2.2.2.2.2.2.2.2.2) Y)) (eY : Y2 = h_s (t_rend f N Y1.2.2.2.2.2.2.2.2.2) Y1) (eZ : Z2 = r_hd true jf jz jps jln N L (wd s) (ht s) (gSl Rz s) p y Z) :
    Er N Y2.2.2.2.2.2.2.2.2.2 Z2.2.2.2.2.2.2.2 ∧ (Y2.2.2.2.2.2.2.2.2.2.1 = 0 → SQ sta pr bd wd ht n Rz L C (fun t a x => if sta s + p * bd s * (wd s * ht s) ≤ cB sta wd ht t a x ∧ cB sta wd ht t a x < sta s + p * bd s * (wd s * ht s) + bd s * (wd s * ht s) then y + 1 else cnt t a x) Y2 Z2) := by
  have hb0 := Er_beg hE
  obtain ⟨d, ed⟩ : ∃ z, z = m_any (h_s (t_rbeg Y.2.2.2.2.2.2.2.2.2) Y).1 L y (sta s + p * bd s * (wd s * ht s)) (sta s + p * bd s * (wd s * ht s) + bd s * (wd s * ht s)) := ⟨_, rfl⟩
  obtain ⟨d2, ed2⟩ : ∃ z, z = r_any jps y (r_fr (wd s) (ht s) (gSl Rz s) p) (bd s * (wd s * ht s)) := ⟨_, rfl⟩
  obtain ⟨b1, b2⟩ := Br_bit hf hb0 d d2
  have eY3 : Y1 = if (bitR f N (t_rbeg Y.2.2.2.2.2.2.2.2.2) d).1 = true then t_go (t_st (bitR f N) (fpR f N) (flR f N) V1 V2 L y (sta s + p * bd s * (wd s * ht s)) (wd s * ht s) (wd s) (ht s)) (bd s * (wd s * ht s)) 0 (h_s (bitR f N (t_rbeg Y.2.2.2.2.2.2.2.2.2) d).2 (h_s (t_rbeg Y.2.2.2.2.2.2.2.2.2) Y)) else h_s (bitR f N (t_rbeg Y.2.2.2.2.2.2.2.2.2) d).2 (h_s (t_rbeg Y.2.2.2.2.2.2.2.2.2) Y) := by
    rw [eY1, ed]
    rfl
  have eZ3 : Z2 = r_fz true jf N (if (bitM true jf N (r_beg true Z.2.2.2.2.2.2.2) d2).1 = true then r_go (r_st true jf jz jps jln N L (wd s) (ht s) (r_fr (wd s) (ht s) (gSl Rz s) p) (gSl Rz s) p y) (bd s * (wd s * ht s)) 0 (r_s (bitM true jf N (r_beg true Z.2.2.2.2.2.2.2) d2).2 Z) else r_s (bitM true jf N (r_beg true Z.2.2.2.2.2.2.2) d2).2 Z) := by
    rw [eZ, ed2]
    unfold r_hd r_h2
    rw [← hbg]
  rw [← b1] at eZ3
  by_cases c : (bitR f N (t_rbeg Y.2.2.2.2.2.2.2.2.2) d).1 = true
  · rw [if_pos c] at eY3 eZ3
    obtain ⟨Z4, eZ4⟩ : ∃ z, z = r_go (r_st true jf jz jps jln N L (wd s) (ht s) (r_fr (wd s) (ht s) (gSl Rz s) p) (gSl Rz s) p y) (bd s * (wd s * ht s)) 0 (r_s (bitM true jf N (r_beg true Z.2.2.2.2.2.2.2) d2).2 Z) := ⟨_, rfl⟩
    rw [← eZ4] at eZ3
    have hg := go_rd hf (jz := jz) (jps := jps) (jln := jln) (V1 := V1) (V2 := V2) h hR hL hgs hgC hs hp hy hbg (bd s * (wd s * ht s)) 0 cnt (h_s (bitR f N (t_rbeg Y.2.2.2.2.2.2.2.2.2) d).2 (h_s (t_rbeg Y.2.2.2.2.2.2.2.2.2) Y)) (r_s (bitM true jf N (r_beg true Z.2.2.2.2.2.2.2) d2).2 Z) (by omega) b2 (fun _ => hH) (fun t ht1 a ha x hx w1 w2 => hc t ht1 a ha x hx (by omega) w2) Y1 Z4 eY3 eZ4
    rw [eY, eZ3]
    refine ⟨Er_end hf hg.1, fun z => ?_⟩
    have z1 : Y1.2.2.2.2.2.2.2.2.2.1 = 0 := by
      by_cases w : Y1.2.2.2.2.2.2.2.2.2.1 = 0
      · exact w
      · exact absurd ((rend_flt w).symm.trans z) w
    exact hg.2 z1
  · rw [if_neg c] at eY3 eZ3
    rw [eY, eZ3, eY3]
    refine ⟨Er_end hf b2, fun _ => ?_⟩
    obtain ⟨a1, a2, a3⟩ := hH
    refine ⟨a1, a2, fun t ht1 a ha x hx => ?_⟩
    have := a3 t ht1 a ha x hx
    show fq1 L Y Z _ _ (if _ then _ else _)
    split
    · rename_i w
      rw [hc t ht1 a ha x hx w.1 w.2] at this
      exact fq1_mono this
    · exact this
set_option maxHeartbeats 4000000 in
theorem it_rd (hf : ∀ j, j < N → f j = jf j) {M : Nat} (h : shp sta pr bd wd ht (C * Rz)) (hR : 1 ≤ Rz ∧ Rz ≤ 4) (hC : C ≤ 3) (hL : L ≤ 8) (hsh : ∀ s, s < C * Rz → jw (gSl Rz s) = wd s ∧ jh (gSl Rz s) = ht s ∧ bd s = m_bnd (gSl Rz s)) (hP : plR pr pl jro L Rz C M) {Y : hS rT} {Z : kS} (hE : Er N Y.2.2.2.2.2.2.2.2.2 Z.2.2.2.2.2.2.2) (hH : SQ sta pr bd wd ht (C * Rz) Rz L C (fun _ _ _ => 0) Y Z) :
    ∀ k, k ≤ M → (∀ j, j < k → (t_it (pkR f N V1 V2 pl sta bd wd ht L Rz) j Y).2.2.2.2.2.2.2.2.2.1 = 0) → Er N (t_it (pkR f N V1 V2 pl sta bd wd ht L Rz) k Y).2.2.2.2.2.2.2.2.2 (r_it (r_pk true jf jz jps jln jw jh jro N L) k Z).2.2.2.2.2.2.2 ∧ ((t_it (pkR f N V1 V2 pl sta bd wd ht L Rz) k Y).2.2.2.2.2.2.2.2.2.1 = 0 → SQ sta pr bd wd ht (C * Rz) Rz L C (fun t a _ => cntP pl Rz t (a / bd t) k) (t_it (pkR f N V1 V2 pl sta bd wd ht L Rz) k Y) (r_it (r_pk true jf jz jps jln jw jh jro N L) k Z))
  | 0, _, _ => ⟨hE, fun _ => hH⟩
  | k + 1, hk, hz => by
    obtain ⟨i1, i2⟩ := it_rd hf h hR hC hL hsh hP hE hH k (by omega) (fun j hj => hz j (by omega))
    have i3 := i2 (hz k (by omega))
    rw [t_it, r_it]
    obtain ⟨Yk, eYk⟩ : ∃ x, x = t_it (pkR f N V1 V2 pl sta bd wd ht L Rz) k Y := ⟨_, rfl⟩
    obtain ⟨Zk, eZk⟩ : ∃ x, x = r_it (r_pk true jf jz jps jln jw jh jro N L) k Z := ⟨_, rfl⟩
    rw [← eYk, ← eZk] at i1 i3 ⊢
    obtain ⟨⟨⟨j0, j1, j2, j3⟩, l0, l1, l2, l3⟩, hO⟩ := (⟨hP.1 k (by omega), hP.2 k (by omega)⟩ : _ ∧ _)
    obtain ⟨s, es⟩ : ∃ x, x = pl (k * 4 + 2) * Rz + pl (k * 4 + 1) := ⟨_, rfl⟩
    obtain ⟨p, ep⟩ : ∃ x, x = pl (k * 4 + 3) := ⟨_, rfl⟩
    obtain ⟨y, ey⟩ : ∃ x, x = pl (k * 4 + 0) := ⟨_, rfl⟩
    have hg : 4 * jro (4 * k + 2) + jro (4 * k + 1) = gSl Rz s := by rw [j1, j2, es, gSl_at l1]
    rw [← es, ← ep] at l3
    rw [← ep, ← ey, ← es] at hO
    rw [← ey] at l0
    have hs : s < C * Rz := by rw [es]; exact m_in l2 l1
    obtain ⟨w1, w2, w3⟩ := hsh s hs
    have inr : ∀ t, t < C * Rz → ∀ a, a < pr t * bd t → ∀ x, x < wd t * ht t → (sta s + p * bd s * (wd s * ht s) ≤ cB sta wd ht t a x ∧ cB sta wd ht t a x < sta s + p * bd s * (wd s * ht s) + bd s * (wd s * ht s) ↔ s = t ∧ p = a / bd t) := by
      intro t ht1 a ha x hx
      constructor
      · intro w
        have hi : cB sta wd ht t a x - (sta s + p * bd s * (wd s * ht s)) < bd s * (wd s * ht s) := by omega
        obtain ⟨k1, k2, k3, k4, k5, k6⟩ := blk_j (Rz := Rz) h hs l3 hi
        obtain ⟨x1, x2, x3⟩ := cB_inj h ht1 ha hx hs k1 k2 (by rw [k3]; omega)
        subst x1
        exact ⟨rfl, by rw [x2, k5]⟩
      · intro w
        obtain ⟨c1, c2⟩ := w
        subst c1
        have hq2 := qb_lim h hs ha
        have h4 := h.2 s hs
        have hm := Nat.mod_lt a (show 0 < bd s by omega)
        have hi : a % bd s * (wd s * ht s) + x < bd s * (wd s * ht s) := m_in hm hx
        have eb : cB sta wd ht s a x = sta s + p * bd s * (wd s * ht s) + (a % bd s * (wd s * ht s) + x) := by
          have e1 : a = p * bd s + a % bd s := by rw [c2, Nat.mul_comm]; exact hq2.2.2.symm
          have e2 : a * (wd s * ht s) = p * bd s * (wd s * ht s) + a % bd s * (wd s * ht s) := by
            rw [← Nat.add_mul, ← e1]
          unfold cB
          rw [e2]
          omega
        omega
    have gC : ∀ s, s < C * Rz → gSl Rz s / 4 < C := fun s hs => by
      have l3 : s / Rz < C := Nat.div_lt_of_lt_mul (by rw [Nat.mul_comm]; exact hs)
      have l4 := Nat.mod_lt s (show 0 < Rz by omega)
      unfold gSl
      omega
    have hr := hd_rd hf (jz := jz) (jps := jps) (jln := jln) (V1 := V1) (V2 := V2) (y := y) h hR hL (fun s hs => gSl_lt hR hC hs) gC hs l3 l0 w3 i1 i3 (fun t ht1 a ha x hx v1 v2 => by
      obtain ⟨c1, c2⟩ := (inr t ht1 a ha x hx).mp ⟨v1, v2⟩
      show cntP pl Rz t (a / bd t) k = y
      rw [← c2, ← c1]
      exact hO.symm) rfl rfl rfl
    have eY : pkR f N V1 V2 pl sta bd wd ht L Rz k Yk = h_s (t_rend f N (t_hd (bitR f N) (fpR f N) (flR f N) V1 V2 L y (sta s + p * bd s * (wd s * ht s)) (wd s * ht s) (bd s) (wd s) (ht s) (h_s (t_rbeg Yk.2.2.2.2.2.2.2.2.2) Yk)).2.2.2.2.2.2.2.2.2) (t_hd (bitR f N) (fpR f N) (flR f N) V1 V2 L y (sta s + p * bd s * (wd s * ht s)) (wd s * ht s) (bd s) (wd s) (ht s) (h_s (t_rbeg Yk.2.2.2.2.2.2.2.2.2) Yk)) := by
      unfold pkR t_pk
      rw [← es, ← ep, ← ey]
    have eZ : r_pk true jf jz jps jln jw jh jro N L k Zk = r_hd true jf jz jps jln N L (wd s) (ht s) (gSl Rz s) p y Zk := by
      unfold r_pk
      rw [hg, w1, w2, j3, j0, ← ep, ← ey]
    rw [← eY, ← eZ] at hr
    refine ⟨hr.1, fun z => ?_⟩
    obtain ⟨g1, g2, g3⟩ := hr.2 z
    refine ⟨g1, g2, fun t ht1 a ha x hx => ?_⟩
    have := g3 t ht1 a ha x hx
    have e9 : (if sta s + p * bd s * (wd s * ht s) ≤ cB sta wd ht t a x ∧ cB sta wd ht t a x < sta s + p * bd s * (wd s * ht s) + bd s * (wd s * ht s) then y + 1 else cntP pl Rz t (a / bd t) k) = cntP pl Rz t (a / bd t) (k + 1) := by
      rw [cntP, ← es, ← ep]
      by_cases c : s = t ∧ p = a / bd t
      · rw [if_pos ((inr t ht1 a ha x hx).mpr c), if_pos c, ← c.2, ← c.1, ← hO]
      · rw [if_neg (fun w => c ((inr t ht1 a ha x hx).mp w)), if_neg c, Nat.add_zero]
    show fq1 L _ _ _ _ (cntP pl Rz t (a / bd t) (k + 1))
    rw [← e9]
    exact this
theorem SQ_0 {rps rln rzs gr lo1 lo2 jgr jlo jrz jrp jrl jdr : Nat → Nat} {bn dn1 dn2 jdo : Nat → Bool} {jrf : Nat → Option Nat} {σ : rS} {B mle mno mla : Nat} (h : shp sta pr bd wd ht (C * Rz)) (hR : 1 ≤ Rz ∧ Rz ≤ 4) (hC : C ≤ 3) (hL : L ≤ 8) (hB : sta (C * Rz) ≤ B) : SQ sta pr bd wd ht (C * Rz) Rz L C (fun _ _ _ => 0) ((m_fill 0 (B * L) rps, m_fill 0 (B * L) rln, m_fill 0 B rzs, m_fill 3 (sta (C * Rz)) gr, m_fill false (sta (C * Rz)) bn, m_fill 0 (2 * sta (C * Rz)) lo1, m_fill false (2 * sta (C * Rz)) dn1, m_fill 0 (2 * sta (C * Rz)) lo2, m_fill false (2 * sta (C * Rz)) dn2, σ) : hS rT) ((m_fill 3 1728 jgr, m_fill 0 4896 jlo, m_fill false 4896 jdo, (m_put (fun _ => 0) 0 (1728 - 0) (jrz)), (m_put (fun _ => none) 0 (1728 - 0) (jrf)), (m_put (fun _ => 0) (8 * 0) (8 * 1728 - 8 * 0) (jrp)), (m_put (fun _ => 0) (8 * 0) (8 * 1728 - 8 * 0) (jrl)), 0, 0, mle, mno, mla, 0, jdr) : kS) := by
  have fit : ∀ s, s < C * Rz → ∀ q, q < pr s * bd s → q * (wd s * ht s) + wd s * ht s ≤ pr s * bd s * (wd s * ht s) ∧ sta s + pr s * bd s * (wd s * ht s) ≤ sta (C * Rz) := by
    intro s hs q hq
    have h1 := h.1 s hs
    have h2 := shp_le h (C * Rz) (s + 1) (by omega) (Nat.le_refl _)
    have := Nat.mul_le_mul_right (wd s * ht s) (show q + 1 ≤ pr s * bd s by omega)
    rw [show (q + 1) * (wd s * ht s) = q * (wd s * ht s) + wd s * ht s from Nat.succ_mul _ _] at this
    exact ⟨this, by omega⟩
  have gl : ∀ s, s < C * Rz → gSl Rz s < 12 := fun s hs => gSl_lt hR hC hs
  have nd : ∀ (lo jl : Nat → Nat) (dn jd : Nat → Bool) (off : Nat), off ≤ 2448 → nQ sta pr bd wd ht (C * Rz) Rz off (m_fill 0 (2 * sta (C * Rz)) lo) (m_fill false (2 * sta (C * Rz)) dn) (m_fill 0 4896 jl) (m_fill false 4896 jd) := by
    intro lo jl dn jd off hoff s hs q hq e he l hl
    have h2 := h.2 s hs
    have f1 := fit s hs q hq
    have r2 := r_node_2 (wd s) (by omega) (ht s) (by omega) e he l hl
    have r17 := r_node_lt (wd s) (by omega) (ht s) (by omega) e he l hl
    have t1 := tB_lt (Rz := Rz) h hs hq (gl s hs)
    have a1 : aB sta wd ht s q + r_node (wd s) (ht s) e l < 2 * sta (C * Rz) := by unfold aB; omega
    have a2 : tB Rz bd s q + off + r_node (wd s) (ht s) e l < 4896 := by omega
    unfold m_fill
    rw [if_pos a1, if_pos a1, if_pos a2, if_pos a2]
    exact ⟨rfl, rfl⟩
  have bl : ∀ s, s < C * Rz → ∀ q, q < pr s * bd s → ∀ e, e < wd s * ht s → cB sta wd ht s q e < sta (C * Rz) ∧ mB Rz wd ht s q e < 1728 := by
    intro s hs q hq e he
    have f1 := fit s hs q hq
    have hz := sz_lim h hs
    have := gl s hs
    constructor
    · unfold cB; omega
    · unfold mB; omega
  have mr : ∀ (g : Nat → Nat) (b a : Nat), b < 1728 → a < 8 → m_put (fun _ => 0) (8 * 0) (8 * 1728 - 8 * 0) g (8 * b + a) = 0 := fun g b a hb ha => by unfold m_put; rw [if_pos (by omega)]
  have mz : ∀ (g : Nat → Nat) (b : Nat), b < 1728 → m_put (fun _ => 0) 0 (1728 - 0) g b = 0 := fun g b hb => by unfold m_put; rw [if_pos (by omega)]
  have mn : ∀ (b : Nat), b < 1728 → m_put (fun _ => none) 0 (1728 - 0) jrf b = none := fun b hb => by unfold m_put; rw [if_pos (by omega)]
  refine ⟨⟨fun s hs q hq e he => ?_, nd _ _ _ _ 0 (by omega), nd _ _ _ _ 2448 (by omega), fun s hs q hq e he l hl => ?_⟩, fun b hb _ => ⟨mz _ b hb, mn b hb, fun a ha => ⟨mr _ b a hb ha, mr _ b a hb ha⟩⟩, fun s hs q hq e he => ?_⟩
  · obtain ⟨b1, b2⟩ := bl s hs q hq e he
    have f1 := fit s hs q hq
    refine ⟨fun y hy => ?_, ?_, ?_, ?_, fun _ => ?_⟩
    · show m_fill 0 (B * L) rps _ = m_put (fun _ => 0) (8 * 0) (8 * 1728 - 8 * 0) jrp _ ∧ m_fill 0 (B * L) rln _ = m_put (fun _ => 0) (8 * 0) (8 * 1728 - 8 * 0) jrl _
      rw [mr _ _ _ b2 (by omega), mr _ _ _ b2 (by omega)]
      unfold m_fill
      rw [if_pos (m_in (show cB sta wd ht s q e < B by omega) hy), if_pos (m_in (show cB sta wd ht s q e < B by omega) hy)]
      exact ⟨rfl, rfl⟩
    · show m_fill 0 B rzs _ = m_put (fun _ => 0) 0 (1728 - 0) jrz _
      rw [mz _ _ b2]
      unfold m_fill
      rw [if_pos (by omega)]
    · show m_fill 3 (sta (C * Rz)) gr _ = m_fill 3 1728 jgr _
      unfold m_fill
      rw [if_pos b1, if_pos b2]
    · show m_fill false (sta (C * Rz)) bn _ = (m_put (fun _ => none) 0 (1728 - 0) jrf _).isSome
      rw [mn _ b2]
      unfold m_fill
      rw [if_pos b1]
      rfl
    · show m_fill false (2 * sta (C * Rz)) dn2 _ = false
      unfold m_fill
      rw [if_pos (by unfold aB; omega)]
  · have h2 := h.2 s hs
    have f1 := fit s hs q hq
    have r2 := r_node_2 (wd s) (by omega) (ht s) (by omega) e he l hl
    show m_fill 0 (2 * sta (C * Rz)) lo2 _ ≤ 30
    unfold m_fill
    rw [if_pos (by unfold aB; omega)]
    omega
  · obtain ⟨b1, b2⟩ := bl s hs q hq e he
    have hz : ∀ a, a < L → m_fill 0 (B * L) rps (cB sta wd ht s q e * L + a) = 0 := fun a ha => by
      unfold m_fill
      rw [if_pos (m_in (show cB sta wd ht s q e < B by omega) ha)]
    refine ⟨fun a _ ha => hz a ha, fun _ a ha => hz a ha, fun b q9 => ?_⟩
    have q9 : m_put (fun _ => none) 0 (1728 - 0) jrf (mB Rz wd ht s q e) = some b := q9
    rw [mn _ b2] at q9
    cases q9
end RG9

/-! a new object: what holds of its numbers -/
theorem lp_go_ok {pr fn : Nat → Nat} {L Rz C np q : Nat} (hq : q < 5) (hC : C ≤ 3) (hnp : np = L * Rz * 3 * 4) (hE : fn 0 ≤ L ∧ fn 1 ≤ Rz ∧ fn 2 ≤ C ∧ fn 3 ≤ 4) {X : lS} (h : oL pr L Rz C np X) : oL pr L Rz C np (lp_go fn pr L Rz (m_ord (q * 4)) (m_ord (q * 4 + 1)) (m_ord (q * 4 + 2)) (m_ord (q * 4 + 3)) X) := by
  obtain ⟨⟨l0, l1, l2, l3⟩, ⟨n01, n02, n03, n12, n13, n23⟩, hcov⟩ := m_perm q hq
  generalize ea : m_ord (q * 4) = a at *
  generalize eb : m_ord (q * 4 + 1) = k at *
  generalize ec : m_ord (q * 4 + 2) = r at *
  generalize ed : m_ord (q * 4 + 3) = d at *
  have hd : ∀ ia ib ic (Z : lS), ia < fn a → ib < fn k → ic < fn r → Z.1 a = ia → Z.1 k = ib → Z.1 r = ic → oL pr L Rz C np Z → (lpC fn pr L Rz d Z).1 a = ia ∧ (lpC fn pr L Rz d Z).1 k = ib ∧ (lpC fn pr L Rz d Z).1 r = ic ∧ oL pr L Rz C np (lpC fn pr L Rz d Z) := by
    intro ia ib ic Z ha hk hr z1 z2 z3 hz
    have h9 := lp_for_ind (fn := fn) (body := lp_one pr L Rz) (ax := d) (X := Z) (fun i w => w.1 a = ia ∧ w.1 k = ib ∧ w.1 r = ic ∧ w.1 d = i ∧ oL pr L Rz C np w)
      ⟨by show va_up Z.1 d 0 a = ia; rw [va_up_ne _ _ n03]; exact z1, by show va_up Z.1 d 0 k = ib; rw [va_up_ne _ _ n13]; exact z2, by show va_up Z.1 d 0 r = ic; rw [va_up_ne _ _ n23]; exact z3, by show va_up Z.1 d 0 d = 0; rw [va_up_self], hz⟩
      (fun i w hi hw => by
        obtain ⟨w1, w2, w3, w4, w5⟩ := hw
        have hp := lp_one_1 (pr := pr) (L := L) (Rz := Rz) w
        have hlt : ∀ j, j < 4 → w.1 j < fn j := fun j hj => by
          rcases hcov j hj with e | e | e | e
          · rw [e, w1]; exact ha
          · rw [e, w2]; exact hk
          · rw [e, w3]; exact hr
          · rw [e, w4]; exact hi
        have g0 := Nat.lt_of_lt_of_le (hlt 0 (by omega)) hE.1
        have g1 := Nat.lt_of_lt_of_le (hlt 1 (by omega)) hE.2.1
        have g2 := Nat.lt_of_lt_of_le (hlt 2 (by omega)) hE.2.2.1
        have g3 := Nat.lt_of_lt_of_le (hlt 3 (by omega)) hE.2.2.2
        refine ⟨?_, ?_, ?_, ?_, ?_⟩
        · show va_up (lp_one pr L Rz w).1 d _ a = ia; rw [va_up_ne _ _ n03, hp]; exact w1
        · show va_up (lp_one pr L Rz w).1 d _ k = ib; rw [va_up_ne _ _ n13, hp]; exact w2
        · show va_up (lp_one pr L Rz w).1 d _ r = ic; rw [va_up_ne _ _ n23, hp]; exact w3
        · show va_up (lp_one pr L Rz w).1 d ((lp_one pr L Rz w).1 d + 1) d = i + 1; rw [va_up_self, hp, w4]
        · exact lp_one_ok w5 (m_mark g0 g1 (Nat.lt_of_lt_of_le g2 hC) g3 hnp) g0 g1 g2)
    obtain ⟨y1, y2, y3, -, y5⟩ := h9
    exact ⟨y1, y2, y3, y5⟩
  have hc : ∀ ia ib (Z : lS), ia < fn a → ib < fn k → Z.1 a = ia → Z.1 k = ib → oL pr L Rz C np Z → (lpB fn pr L Rz r d Z).1 a = ia ∧ (lpB fn pr L Rz r d Z).1 k = ib ∧ oL pr L Rz C np (lpB fn pr L Rz r d Z) := by
    intro ia ib Z ha hk z1 z2 hz
    have h9 := lp_for_ind (fn := fn) (body := lpC fn pr L Rz d) (ax := r) (X := Z) (fun i w => w.1 a = ia ∧ w.1 k = ib ∧ w.1 r = i ∧ oL pr L Rz C np w)
      ⟨by show va_up Z.1 r 0 a = ia; rw [va_up_ne _ _ n02]; exact z1, by show va_up Z.1 r 0 k = ib; rw [va_up_ne _ _ n12]; exact z2, by show va_up Z.1 r 0 r = 0; rw [va_up_self], hz⟩
      (fun i w hi hw => by
        obtain ⟨w1, w2, w3, w5⟩ := hw
        obtain ⟨y1, y2, y3, y4⟩ := hd ia ib i w ha hk hi w1 w2 w3 w5
        refine ⟨?_, ?_, ?_, y4⟩
        · show va_up (lpC fn pr L Rz d w).1 r _ a = ia; rw [va_up_ne _ _ n02]; exact y1
        · show va_up (lpC fn pr L Rz d w).1 r _ k = ib; rw [va_up_ne _ _ n12]; exact y2
        · show va_up (lpC fn pr L Rz d w).1 r ((lpC fn pr L Rz d w).1 r + 1) r = i + 1; rw [va_up_self, y3])
    obtain ⟨y1, y2, -, y5⟩ := h9
    exact ⟨y1, y2, y5⟩
  have hb9 : ∀ ia (Z : lS), ia < fn a → Z.1 a = ia → oL pr L Rz C np Z → (lpA fn pr L Rz k r d Z).1 a = ia ∧ oL pr L Rz C np (lpA fn pr L Rz k r d Z) := by
    intro ia Z ha z1 hz
    have h9 := lp_for_ind (fn := fn) (body := lpB fn pr L Rz r d) (ax := k) (X := Z) (fun i w => w.1 a = ia ∧ w.1 k = i ∧ oL pr L Rz C np w)
      ⟨by show va_up Z.1 k 0 a = ia; rw [va_up_ne _ _ n01]; exact z1, by show va_up Z.1 k 0 k = 0; rw [va_up_self], hz⟩
      (fun i w hi hw => by
        obtain ⟨w1, w2, w5⟩ := hw
        obtain ⟨y1, y2, y4⟩ := hc ia i w ha hi w1 w2 w5
        refine ⟨?_, ?_, y4⟩
        · show va_up (lpB fn pr L Rz r d w).1 k _ a = ia; rw [va_up_ne _ _ n01]; exact y1
        · show va_up (lpB fn pr L Rz r d w).1 k ((lpB fn pr L Rz r d w).1 k + 1) k = i + 1; rw [va_up_self, y2])
    obtain ⟨y1, -, y5⟩ := h9
    exact ⟨y1, y5⟩
  have h9 := lp_for_ind (fn := fn) (body := lpA fn pr L Rz k r d) (ax := a) (X := X) (fun i w => w.1 a = i ∧ oL pr L Rz C np w)
    ⟨by show va_up X.1 a 0 a = 0; rw [va_up_self], h⟩
    (fun i w hi hw => by
      obtain ⟨w1, w5⟩ := hw
      obtain ⟨y1, y4⟩ := hb9 i w hi w1 w5
      refine ⟨?_, y4⟩
      show va_up (lpA fn pr L Rz k r d w).1 a ((lpA fn pr L Rz k r d w).1 a + 1) a = i + 1; rw [va_up_self, y1])
  exact h9.2
abbrev fP (lv : Nat) : Nat → Nat := m_put m_one 0 (lv + 1) m_z
abbrev fB (lv : Nat) : Nat → Nat := m_put m_b13 0 (lv + 1) m_z
abbrev fS (lv : Nat) : Nat → Nat := m_starts (fP lv) (fB lv) (fP lv) (fP lv) m_z (lv + 1)
abbrev fJ : Nat → Nat := m_put m_one 0 12 m_z
abbrev fR (Ly lv : Nat) : (Nat → Nat) × lS := co_list m_z fJ Ly (lv + 1) 1 0 m_z (m_z, 0, m_z, m_f)
theorem m_put1 {n j : Nat} (h : j < n) : m_put m_one 0 n m_z j = 1 := by unfold m_put; rw [if_pos ⟨Nat.zero_le _, by omega⟩]; rfl
theorem m_put_le1 {n : Nat} (j : Nat) : m_put m_one 0 n m_z j ≤ 1 := by
  unfold m_put
  split
  · exact Nat.le_refl _
  · exact Nat.zero_le _
theorem f_pr {n : Nat} (j : Nat) : m_put m_one 0 n m_z j ≤ 4 := Nat.le_trans (m_put_le1 j) (by omega)
theorem m_z_lt {k : Nat} (h : 0 < k) (j : Nat) : m_z j < k := h
theorem f_s0 {lv : Nat} : fS lv 0 = 0 := by
  show (if 0 ≤ lv + 1 then m_st (fP lv) (fB lv) (fP lv) (fP lv) 0 else m_z 0) = 0
  rw [if_pos (Nat.zero_le _)]; rfl
theorem f_lv {lv : Nat} (h : lv ≤ 3) : lv = 0 ∨ lv = 1 ∨ lv = 2 ∨ lv = 3 := by omega
theorem f_b1 {lv : Nat} (h : lv ≤ 3) : fS lv (1 * (lv + 1)) ≤ m_most (lv + 1) := by
  rcases f_lv h with e | e | e | e <;> subst e <;> decide +kernel
theorem f_tot {lv : Nat} (h : lv ≤ 3) : fS lv (1 * (lv + 1)) ≤ 10 := by
  rcases f_lv h with e | e | e | e <;> subst e <;> decide +kernel
theorem f_b2 {lv : Nat} (h : lv ≤ 3) : fS lv (1 * (lv + 1)) ≤ m_starts (m_put m_one (1 * (lv + 1)) (lv + 1) (fP lv)) (m_put m_b13 (1 * (lv + 1)) (lv + 1) (fB lv)) (m_put m_one (1 * (lv + 1)) (lv + 1) (fP lv)) (m_put m_one (1 * (lv + 1)) (lv + 1) (fP lv)) (fS lv) ((1 + 1) * (lv + 1)) ((1 + 1) * (lv + 1)) := by
  rcases f_lv h with e | e | e | e <;> subst e <;> decide +kernel
theorem f_b3 {lv : Nat} (h : lv ≤ 3) : m_starts (m_put m_one (1 * (lv + 1)) (lv + 1) (fP lv)) (m_put m_b13 (1 * (lv + 1)) (lv + 1) (fB lv)) (m_put m_one (1 * (lv + 1)) (lv + 1) (fP lv)) (m_put m_one (1 * (lv + 1)) (lv + 1) (fP lv)) (fS lv) ((1 + 1) * (lv + 1)) ((1 + 1) * (lv + 1)) ≤ m_most (lv + 1) := by
  rcases f_lv h with e | e | e | e <;> subst e <;> decide +kernel
theorem f_most {lv : Nat} (h : lv ≤ 3) : 144 ≤ m_most (lv + 1) ∧ (lv = 0 ∨ 400 ≤ m_most (lv + 1)) := by
  rcases f_lv h with e | e | e | e <;> subst e <;> decide +kernel
theorem f_bd {lv k : Nat} (h : lv ≤ 3) (hk : k < lv + 1) : fB lv (0 * (lv + 1) + k) ≤ 3 := by
  rw [Nat.zero_mul, Nat.zero_add]
  show m_put m_b13 0 (lv + 1) m_z k ≤ 3
  unfold m_put
  rw [if_pos ⟨Nat.zero_le _, by omega⟩]
  unfold m_b13
  split <;> omega
theorem f_old {lv : Nat} (h : lv ≤ 3) : ∀ k, k < lv + 1 → fS lv (0 * (lv + 1) + k) + fP lv (0 * (lv + 1) + k) * fB lv (0 * (lv + 1) + k) * (fP lv (0 * (lv + 1) + k) * fP lv (0 * (lv + 1) + k)) ≤ fS lv (1 * (lv + 1)) := by
  rcases f_lv h with e | e | e | e <;> subst e <;> decide +kernel
theorem f_sz {lv : Nat} (h : lv ≤ 3) : ∀ j, j < 1 * (lv + 1) → fS lv j + fP lv j * fB lv j ≤ m_most (lv + 1) := by
  rcases f_lv h with e | e | e | e <;> subst e <;> decide +kernel
theorem f_wd {lv : Nat} (j : Nat) (h : j < 1 * (lv + 1)) : fP lv j = 1 ∧ fP lv j = 1 := ⟨m_put1 (by omega), m_put1 (by omega)⟩
theorem f_bef {lv : Nat} (h : lv ≤ 3) : ∀ k, k < lv + 1 → fS lv (0 * (lv + 1) + k) = m_bef fJ fJ fJ 1 (lv + 1) (4 * 0 + k) ∧ fB lv (0 * (lv + 1) + k) = m_bnd (4 * 0 + k) := by
  rcases f_lv h with e | e | e | e <;> subst e <;> decide +kernel
theorem f_all {lv : Nat} (h : lv ≤ 3) : fS lv (1 * (lv + 1)) = m_bef fJ fJ fJ 1 (lv + 1) 12 := by
  rcases f_lv h with e | e | e | e <;> subst e <;> decide +kernel
theorem f_jold {lv : Nat} (h : lv ≤ 3) : ∀ k, k < lv + 1 → fJ (4 * 0 + k) * m_bnd (4 * 0 + k) * fJ (4 * 0 + k) * fJ (4 * 0 + k) ≤ m_bef fJ fJ fJ 1 (lv + 1) 12 := by
  rcases f_lv h with e | e | e | e <;> subst e <;> decide +kernel
theorem f_mul {c0 d0 e0 k : Nat} (hk : k ≤ 3) (h1 : c0 ≤ 4) (h2 : d0 ≤ 4) (h3 : e0 ≤ 3) : c0 * k * d0 * e0 ≤ 144 :=
  Nat.mul_le_mul (Nat.mul_le_mul (Nat.mul_le_mul h1 hk) h2) h3
theorem f_mul1 {c0 d0 e0 k : Nat} (hk : k ≤ 1) (h1 : c0 ≤ 4) (h2 : d0 ≤ 4) (h3 : e0 ≤ 3) : c0 * k * d0 * e0 ≤ 48 :=
  Nat.mul_le_mul (Nat.mul_le_mul (Nat.mul_le_mul h1 hk) h2) h3
theorem m_bnd_le (g : Nat) : m_bnd g ≤ 3 := by unfold m_bnd; split <;> omega
section FR
variable {Ly lv : Nat}
theorem f_frl : m_frl Ly lv = lp_run (fP lv) Ly (lv + 1) 1 (m_z, lp_start (Ly * (lv + 1) * 3 * 4) (m_z, 0, m_z, m_f)) 0 8 4 3 := rfl
theorem f_oL : oL (fP lv) Ly (lv + 1) 1 (Ly * (lv + 1) * 3 * 4) (m_frl Ly lv).2 := by
  rw [f_frl]
  exact lp_go_ok (q := 0) (by omega) (by omega) rfl (m_ends_le _ _ _ _ _ _ _) lp_start_ok
theorem f_qR (hLy : 1 ≤ Ly ∧ Ly ≤ 8) (hlv : lv ≤ 3) : qR Ly (lv + 1) 1 (m_frl Ly lv).2 (fR Ly lv).2 := by
  refine qR_list (fo := m_z) (fe := m_z) hLy ⟨by omega, by omega⟩ ⟨by omega, by omega⟩ (fun a k ha hk => ?_) (fun i hi => absurd hi (Nat.not_lt_zero _))
  rw [show a = 0 by omega, m_put1 (by omega)]
  exact (m_put1 (by omega)).symm
theorem f_cnt (hLy : 1 ≤ Ly ∧ Ly ≤ 8) (hlv : lv ≤ 3) : (m_frl Ly lv).2.2.1 = (fR Ly lv).2.2.1 := (f_qR hLy hlv).1
theorem f_max (hLy : 1 ≤ Ly ∧ Ly ≤ 8) (hlv : lv ≤ 3) : Ly * (lv + 1) * 3 * 4 ≤ 384 := by
  have h1 : Ly * (lv + 1) ≤ 8 * 4 := Nat.mul_le_mul hLy.2 (by omega)
  omega
theorem f_le (hLy : 1 ≤ Ly ∧ Ly ≤ 8) (hlv : lv ≤ 3) : (m_frl Ly lv).2.2.1 ≤ 384 := Nat.le_trans (oL_le f_oL) (f_max hLy hlv)
theorem f_leR (hLy : 1 ≤ Ly ∧ Ly ≤ 8) (hlv : lv ≤ 3) : (fR Ly lv).2.2.1 ≤ 384 := by rw [← f_cnt hLy hlv]; exact f_le hLy hlv
theorem f_pos (hLy : 1 ≤ Ly ∧ Ly ≤ 8) (hlv : lv ≤ 3) : 1 ≤ (fR Ly lv).2.2.1 := by
  have e1 : fR Ly lv = co_run fJ Ly (lv + 1) 1 (m_z, co_start (m_z, 0, m_z, m_f)) 0 8 4 3 := by
    show (if 0 = 0 then _ else _) = _
    rw [if_pos rfl]; rfl
  obtain ⟨c0, c1, c2, c3⟩ := m_ends_eq m_z 8 4 3 Ly (lv + 1) 1
  have e2 : (fR Ly lv).2 = cn_it fJ (m_ends m_z 8 4 3 Ly (lv + 1) 1) 0 ((m_ends m_z 8 4 3 Ly (lv + 1) 1) 0 * (m_ends m_z 8 4 3 Ly (lv + 1) 1) 1 * (m_ends m_z 8 4 3 Ly (lv + 1) 1) 2 * 4) (co_start (m_z, 0, m_z, m_f)) := by rw [e1]; rfl
  rw [e2]
  have hp : 1 ≤ (m_ends m_z 8 4 3 Ly (lv + 1) 1) 0 * (m_ends m_z 8 4 3 Ly (lv + 1) 1) 1 * (m_ends m_z 8 4 3 Ly (lv + 1) 1) 2 * 4 := by
    rw [c0, c1, c2]
    exact Nat.mul_le_mul (Nat.mul_le_mul (Nat.mul_le_mul (show 1 ≤ min 8 Ly by omega) (show 1 ≤ min 4 (lv + 1) by omega)) (show 1 ≤ min 3 1 by omega)) (show 1 ≤ 4 by omega)
  obtain ⟨n, hn⟩ : ∃ n, (m_ends m_z 8 4 3 Ly (lv + 1) 1) 0 * (m_ends m_z 8 4 3 Ly (lv + 1) 1) 1 * (m_ends m_z 8 4 3 Ly (lv + 1) 1) 2 * 4 = n + 1 := ⟨_, (Nat.sub_add_cancel hp).symm⟩
  rw [hn]
  refine cn_it_pos (by omega) (fun j hj => ?_) (Nat.le_of_eq (m_put1 (by omega)).symm) rfl n
  rcases (show j = 0 ∨ j = 1 ∨ j = 2 ∨ j = 3 by omega) with e | e | e | e <;> subst e
  · rw [c0]; omega
  · rw [c1]; omega
  · rw [c2]; omega
  · rw [c3]; omega
theorem f_posC (hLy : 1 ≤ Ly ∧ Ly ≤ 8) (hlv : lv ≤ 3) : 1 ≤ (m_frl Ly lv).2.2.1 := by rw [f_cnt hLy hlv]; exact f_pos hLy hlv
theorem f_at (hLy : 1 ≤ Ly ∧ Ly ≤ 8) (hlv : lv ≤ 3) {k j : Nat} (hk : k < (fR Ly lv).2.2.1) (hj : j < 4) : (m_frl Ly lv).2.2.2.1 (k * 4 + j) = (fR Ly lv).2.2.2.1 (4 * k + j) := (f_qR hLy hlv).2.1 k hk j hj
theorem f_hpl (hLy : 1 ≤ Ly ∧ Ly ≤ 8) (hlv : lv ≤ 3) : ∀ k, k < (fR Ly lv).2.2.1 → 4 * (fR Ly lv).2.2.2.1 (4 * k + 2) + (fR Ly lv).2.2.2.1 (4 * k + 1) < 12 ∧ (fR Ly lv).2.2.2.1 (4 * k + 3) ≤ 3 ∧ (fR Ly lv).2.2.2.1 (4 * k) ≤ 7 ∧ fJ (4 * (fR Ly lv).2.2.2.1 (4 * k + 2) + (fR Ly lv).2.2.2.1 (4 * k + 1)) * fJ (4 * (fR Ly lv).2.2.2.1 (4 * k + 2) + (fR Ly lv).2.2.2.1 (4 * k + 1)) ≤ 12 := by
  intro k hk
  have h0 := f_at hLy hlv hk (j := 0) (by omega)
  have h1 := f_at hLy hlv hk (j := 1) (by omega)
  have h2 := f_at hLy hlv hk (j := 2) (by omega)
  have h3 := f_at hLy hlv hk (j := 3) (by omega)
  rw [Nat.add_zero, Nat.add_zero] at h0
  obtain ⟨g0, g1, g2, g3⟩ := (f_oL (Ly := Ly) (lv := lv)).2 k (by rw [f_cnt hLy hlv]; exact hk)
  rw [h0] at g0
  rw [h1] at g1
  rw [h2] at g2
  have g4 := Nat.lt_of_lt_of_le g3 (m_put_le1 _)
  rw [h3] at g4
  refine ⟨by omega, by omega, by omega, ?_⟩
  exact Nat.le_trans (Nat.mul_le_mul (m_put_le1 _) (m_put_le1 _)) (by omega)
end FR
theorem f_gf {Ly j : Nat} : m_gf (m_first m_z j Ly) Ly = -1 := by
  rw [m_first_no (fun _ _ => rfl)]
  unfold m_gf
  rw [if_neg (Nat.lt_irrefl _)]
theorem m_put0 {n j : Nat} : m_put (fun _ => 0) 0 n m_z j = 0 := by
  unfold m_put
  split <;> rfl
theorem m_putN {n j : Nat} (h : j < n) : m_put (fun _ => none) 0 n m_so j = none := by
  unfold m_put
  rw [if_pos ⟨Nat.zero_le _, by omega⟩]
theorem m_th_1 {a k : Bool} (h : a = false) : m_th a k = 1 := by rw [h]; rfl
theorem m_th_2 {a k : Bool} (h1 : a = true) (h2 : k = false) : m_th a k = 2 := by rw [h1, h2]; rfl
theorem q_rng {v : Int32} {lo hi : Nat} (h1 : lo < 2 ^ 31) (h2 : hi < 2 ^ 31) (h : nI lo ≤ v ∧ v ≤ nI hi) : ∃ k, lo ≤ k ∧ k ≤ hi ∧ v = nI k := by
  have e1 := h.1
  have e2 := h.2
  rw [Int32.le_iff_toInt_le, nI_toI9 h1] at e1
  rw [Int32.le_iff_toInt_le, nI_toI9 h2] at e2
  refine ⟨v.toNatClampNeg, ?_, ?_, (nI_back ?_).symm⟩
  · show lo ≤ v.toInt.toNat; omega
  · show v.toInt.toNat ≤ hi; omega
  · rw [Int32.lt_iff_toInt_lt]
    show ¬ v.toInt < 0
    omega
theorem q_cmp {f : Nat → Int64} {i : Nat} {v w : Int32} (h : v = w) : lg_cmp (vp_updL f i v.toInt64 i) w.toInt64 = nI 0 := by
  subst h
  unfold lg_cmp vp_updL
  rw [if_pos rfl, if_neg (by show ¬ v.toInt64 < v.toInt64; exact Int64.lt_irrefl), if_pos rfl]
  rfl
theorem f_bt {lv : Nat} (h : lv ≤ 3) : m_bef fJ fJ fJ 1 (lv + 1) 12 ≤ 10 := by rw [← f_all h]; exact f_tot h
theorem f_hmo {lv k c0 d0 e0 : Nat} (h : lv ≤ 3) (hk : k < lv + 1) (h1 : c0 ≤ 4) (h2 : d0 ≤ 4) (h3 : e0 ≤ 3) : 400 ≤ m_most (lv + 1) ∨ fS lv (1 * (lv + 1)) - fP lv (0 * (lv + 1) + k) * fB lv (0 * (lv + 1) + k) * (fP lv (0 * (lv + 1) + k) * fP lv (0 * (lv + 1) + k)) + c0 * fB lv (0 * (lv + 1) + k) * d0 * e0 ≤ m_most (lv + 1) := by
  rcases (f_most h).2 with e | e
  · subst e
    obtain rfl : k = 0 := by omega
    exact Or.inr (Nat.le_trans (Nat.add_le_add (Nat.le_trans (Nat.sub_le _ _) (show fS 0 (1 * (0 + 1)) ≤ 1 by decide +kernel)) (f_mul1 (show fB 0 (0 * (0 + 1) + 0) ≤ 1 by decide +kernel) h1 h2 h3)) (show 1 + 48 ≤ m_most 1 by decide +kernel))
  · exact Or.inl e
theorem f_p1 {lv k : Nat} (h : lv ≤ 3) (hk : k < lv + 1) : 1 ≤ fP lv (0 * (lv + 1) + k) := Nat.le_of_eq (m_put1 (by omega)).symm
theorem f_j1 {lv k : Nat} (h : lv ≤ 3) (hk : k < lv + 1) : 1 ≤ fJ (4 * 0 + k) := Nat.le_of_eq (m_put1 (by omega)).symm
theorem f_pj {lv k : Nat} (h : lv ≤ 3) (hk : k < lv + 1) : fP lv (0 * (lv + 1) + k) = fJ (4 * 0 + k) := (m_put1 (by omega)).trans (m_put1 (by omega)).symm
theorem f_bd1 {lv : Nat} (h : lv ≤ 3) : ∀ k, k < lv + 1 → 1 ≤ fB lv (0 * (lv + 1) + k) := by
  rcases f_lv h with e | e | e | e <;> subst e <;> decide +kernel
theorem f_m12 {n j : Nat} : m_put m_one 0 n m_z j * m_put m_one 0 n m_z j ≤ 12 := Nat.le_trans (Nat.mul_le_mul (m_put_le1 _) (m_put_le1 _)) (by omega)
theorem f_has {lv k : Nat} (h : lv ≤ 3) (hk : k < lv + 1) {x y w : Int32} (q : m_has (fJ (4 * 0 + k)) (m_bnd (4 * 0 + k)) (fJ (4 * 0 + k) * fJ (4 * 0 + k)) x y w = false) : m_has (fP lv (0 * (lv + 1) + k)) (fB lv (0 * (lv + 1) + k)) (fP lv (0 * (lv + 1) + k) * fP lv (0 * (lv + 1) + k)) x y w = false := by
  rw [f_pj h hk, (f_bef h k hk).2]; exact q
theorem f_c1 {lv k j : Nat} (h : lv ≤ 3) (hk : k < lv + 1) (q : j < fJ (4 * 0 + k)) : j < fP lv (0 * (lv + 1) + k) := by rw [f_pj h hk]; exact q
theorem f_c2 {lv k j : Nat} (h : lv ≤ 3) (hk : k < lv + 1) (q : j < m_bnd (4 * 0 + k)) : j < fB lv (0 * (lv + 1) + k) := by rw [(f_bef h k hk).2]; exact q
theorem f_c3 {lv k j : Nat} (h : lv ≤ 3) (hk : k < lv + 1) (q : j < fJ (4 * 0 + k) * fJ (4 * 0 + k)) : j < fP lv (0 * (lv + 1) + k) * fP lv (0 * (lv + 1) + k) := by rw [f_pj h hk]; exact q
theorem f_chs {lv k c0 d0 e0 : Nat} (h : lv ≤ 3) (hk : k < lv + 1) : fS lv (0 * (lv + 1) + k) + ((c0 * fB lv (0 * (lv + 1) + k) + d0) * (fP lv (0 * (lv + 1) + k) * fP lv (0 * (lv + 1) + k)) + e0) = m_bef fJ fJ fJ 1 (lv + 1) (4 * 0 + k) + ((c0 * m_bnd (4 * 0 + k) + d0) * (fJ (4 * 0 + k) * fJ (4 * 0 + k)) + e0) := by
  rw [(f_bef h k hk).1, (f_bef h k hk).2, f_pj h hk]
theorem f_hk {lv : Nat} (h : lv ≤ 3) : fS lv 0 + 0 < m_most (lv + 1) := by
  have h1 := (f_most h).1
  rw [f_s0]; omega
theorem f_gp {lv : Nat} (h : lv ≤ 3) : ∀ i p, m_so i = some p → p < 2 * m_most (lv + 1) := by
  intro i p hp
  have h1 := (f_most h).1
  cases hp
  omega
theorem f_out {v : Int32} : ¬ (nI 0 ≤ v ∧ v ≤ nI 0 - nI 1) := fun q => absurd (Int32.le_trans q.1 q.2) (by decide +kernel)
theorem q_out5 {v : Int32} (h : ¬ (nI 0 ≤ v ∧ v ≤ nI 5)) : v.toInt < 0 ∨ 5 < v.toInt := by
  rw [Int32.le_iff_toInt_le, Int32.le_iff_toInt_le, nI_toI9 (by omega), nI_toI9 (by omega)] at h
  omega
theorem q_and15 (x : Int32) : ∃ k, k < 16 ∧ x &&& nI 15 = nI k := by
  refine ⟨(x.toBitVec &&& 15#32).toNat, ?_, ?_⟩
  · rw [BitVec.toNat_and]
    exact Nat.lt_of_le_of_lt Nat.and_le_right (by decide)
  · apply Int32.toBitVec_inj.1
    show x.toBitVec &&& BitVec.ofNat 32 15 = BitVec.ofNat 32 (x.toBitVec &&& 15#32).toNat
    simp

/-! a new object between two calls -/
theorem inv_fresh {Ly lv : Nat} (hLy : 1 ≤ Ly ∧ Ly ≤ 8) (hlv : lv ≤ 3) : INV Ly (lv + 1) 1 (m_put m_b13 0 (lv + 1) m_z) (m_put m_one 0 (lv + 1) m_z) (m_put m_one 0 (lv + 1) m_z) (m_put m_one 0 (lv + 1) m_z) (m_starts (m_put m_one 0 (lv + 1) m_z) (m_put m_b13 0 (lv + 1) m_z) (m_put m_one 0 (lv + 1) m_z) (m_put m_one 0 (lv + 1) m_z) m_z (lv + 1)) m_z m_z m_z m_z m_z m_z 0 m_z m_z (m_frl Ly lv).2 0 m_z 0 0 0 m_so m_z m_z m_z m_z 0 0 (m_put m_one 0 12 m_z) (m_put m_one 0 12 m_z) (m_put m_one 0 12 m_z) m_z m_z m_z (m_put (fun _ => 0) 0 1728 m_z) (m_put (fun _ => none) 0 1728 m_so) (m_put (fun _ => 0) 0 13824 m_z) (m_put (fun _ => 0) 0 13824 m_z) 0 m_z 0 m_z 0 0 0 0 m_z m_z := by
  have e1 : 1 * (lv + 1) = lv + 1 := Nat.one_mul _
  have hb : ∀ k, k < lv + 1 → m_put m_b13 0 (lv + 1) m_z k = m_b13 k := fun k hk => by unfold m_put; rw [if_pos ⟨Nat.zero_le _, by omega⟩]; rfl
  have hA : iA Ly (lv + 1) 1 (m_put m_b13 0 (lv + 1) m_z) (m_put m_one 0 (lv + 1) m_z) (m_put m_one 0 (lv + 1) m_z) (m_put m_one 0 (lv + 1) m_z) (m_starts (m_put m_one 0 (lv + 1) m_z) (m_put m_b13 0 (lv + 1) m_z) (m_put m_one 0 (lv + 1) m_z) (m_put m_one 0 (lv + 1) m_z) m_z (lv + 1)) (m_put m_one 0 12 m_z) (m_put m_one 0 12 m_z) (m_put m_one 0 12 m_z) := by
    refine ⟨hLy, ⟨by omega, by omega⟩, ⟨by omega, by omega⟩, ?_, f_s0, f_pr, fun s hs => ?_, fun g hg => ?_, f_pr, fun g hg _ => ?_, ?_⟩
    · rw [e1]
      refine shp_starts (fun k hk => ?_)
      rw [m_put1 hk, hb k hk]
      exact ⟨⟨by omega, by omega⟩, (by unfold m_b13; split <;> omega), ⟨by omega, by omega⟩, ⟨by omega, by omega⟩⟩
    · rw [e1] at hs
      have hg : gSl (lv + 1) s = s := by
        unfold gSl
        rw [Nat.div_eq_of_lt hs, Nat.mod_eq_of_lt hs]
        omega
      rw [hg, m_put1 hs, m_put1 (show s < 12 by omega), hb s hs]
      refine ⟨rfl, rfl, rfl, ?_⟩
      unfold m_b13 m_bnd
      rw [show s % 4 = s by omega]
    · rw [m_put1 hg]; omega
    · rw [m_put1 hg]; exact ⟨rfl, rfl, rfl⟩
    · have := f_tot hlv
      exact Nat.le_trans this (by omega)
  have hP : iP 0 m_z m_z m_z := ⟨by omega, fun i hi => absurd hi (Nat.not_lt_zero _), m_z_lt (by omega), m_z_lt (by omega)⟩
  refine ⟨hA, hP, iX_of hA hP f_oL, ⟨by omega, ?_, ?_⟩, ⟨fun s _ q _ e _ => ⟨fun _ _ => rfl, fun _ _ => rfl, rfl⟩, fun B _ _ => ⟨rfl, fun _ _ => ⟨rfl, rfl⟩⟩, fun _ => Nat.zero_le _, m_z_lt (by omega), fun _ => Nat.zero_le _, fun _ => Nat.zero_le _, m_z_lt (by omega), fun _ => Nat.zero_le _⟩, ⟨by omega, rfl, m_z_lt (by omega), m_z_lt (by omega), fun _ _ => rfl⟩, ⟨fun _ => Nat.zero_le _, m_z_lt (by omega), m_z_lt (by omega), m_put_n8 (fun j k h => by cases h; omega), fun s _ q _ e _ => ⟨fun _ _ => m_put0.symm, fun _ _ => m_put0.symm, m_put0.symm⟩, fun s hs q hq e he => ⟨fun _ _ => m_put0.symm, fun _ _ => m_put0.symm, (cF_no (fun _ _ => rfl)).trans (congrArg eF (m_putN (mB_12 hA.2.1 hA.2.2.1.2 hA.2.2.2.1 hs hq he)).symm)⟩, fun B _ _ => ⟨m_put0, fun _ _ => ⟨m_put0, m_put0⟩⟩, fun B hB _ => ⟨congrArg eF (m_putN hB), fun _ _ => ⟨m_put0, m_put0⟩⟩, rfl, rfl⟩, ⟨f_gp hlv, m_z_lt (by omega), m_z_lt (by omega), m_z_lt (by omega), m_z_lt (by omega), rfl, by omega, by omega⟩, ⟨m_z_lt (by omega), m_z_lt (by omega), by omega⟩⟩
  · rw [m_put1 (show 0 < lv + 1 by omega), hb 0 (by omega)]
    show 0 < 1 * 1 * (1 * 1)
    omega
  · show 0 = 144 * (4 * (0 / (lv + 1)) + 0 % (lv + 1)) + 0
    rw [Nat.zero_div, Nat.zero_mod]

set_option maxHeartbeats 4000000 in
set_option maxRecDepth 100000 in
theorem k_Heads_powerNotAbove (l : Launch) (dC : Nat → ClassId) (dI : Nat → Nat → Nat) (cI cZ cL : ClassId) (x : Nat) (h1 : x < 2 ^ 31) :
    q_CP l (dC, dI) vwCl (tyL cI cZ cL) yHD_powerNotAbove wsHD_powerNotAbove (rmD 0) [.int (nI x)] [] (nI (m_pow x)) := by
  refine q_entP "PacketRows$Heads" (by decide) rfl rfl rfl (Nat.le_of_ble_eq_true rfl) ?_
  intro p e s m below meth c ls Q hx hb hml hts hown hP hK hZ hl hret
  have hl : lv_has ls 2 [(0, .int (nI x))] := hl
  refine lv_iconst (v := nI 0) hx hb dHD_powerNotAbove_0 (by decide +kernel) ?_
  refine lv_istore_n (lv' := [(1, .int (nI 0)), (0, .int (nI x))]) hx hb dHD_powerNotAbove_1 rfl hl (by decide) rfl (fun ls hl => ?_)
  have lp_2 : ∀ (fu : Nat) (i : Nat) (ls : Array Slot), 8 - i < fu → (i ≤ 8) → (m_pw x (8 - i) i = m_pow x) → lv_has ls 2 [(1, .int (nI i)), (0, .int (nI x))] → W p l e (headSpec wsHD_powerNotAbove (rmD 0)).room s m [.int (nI x)].toArray below meth c s.heap [] 0 0 Q (F0 m 2 ls []) := by
    intro fu
    induction fu with
    | zero => intro i ls hmeas; exact absurd hmeas (Nat.not_lt_zero _)
    | succ fu ih_2 =>
      intro i ls hmeas hi hf hl
      refine lv_iload_n hx hb dHD_powerNotAbove_2 rfl (lv_at hl 0 rfl) ?_
      refine lv_bipush (v := nI 8) hx hb dHD_powerNotAbove_3 (by decide +kernel) ?_
      refine qn_cge (tgt := 21) hx hb dHD_powerNotAbove_5 (by decide) (by omega) (by omega) (fun c_5 => ?_) (fun c_5 => ?_)
      · refine lv_iload_n hx hb dHD_powerNotAbove_21 rfl (lv_at hl 0 rfl) ?_
        exact qn_eq (by rw [← hf, m_pw_stop (by omega)]) (hret _ _ dHD_powerNotAbove_22)
      · refine lv_iconst (v := nI 2) hx hb dHD_powerNotAbove_8 (by decide +kernel) ?_
        refine lv_iload_n hx hb dHD_powerNotAbove_9 rfl (lv_at hl 0 rfl) ?_
        refine qn_ishl hx hb dHD_powerNotAbove_10 (by omega) (by have : 2 ^ i ≤ 2 ^ 8 := Nat.pow_le_pow_right (by omega) hi; omega) ?_
        refine lv_iload_n hx hb dHD_powerNotAbove_11 rfl (lv_at hl 1 rfl) ?_
        refine qn_cgt (tgt := 21) hx hb dHD_powerNotAbove_12 (by decide) (by have : 2 ^ i ≤ 2 ^ 8 := Nat.pow_le_pow_right (by omega) hi; omega) (by omega) (fun c_12 => ?_) (fun c_12 => ?_)
        · refine lv_iload_n hx hb dHD_powerNotAbove_21 rfl (lv_at hl 0 rfl) ?_
          exact qn_eq (by rw [← hf, m_pw_stop (by omega)]) (hret _ _ dHD_powerNotAbove_22)
        · refine lv_iinc (v := nI (i + 1)) (lv' := [(1, .int (nI (i + 1))), (0, .int (nI x))]) hx hb dHD_powerNotAbove_15 hl (k := 0) rfl (nI_inc _) (by decide) rfl (fun ls hl => ?_)
          refine lv_goto (tgt := 2) hx hb dHD_powerNotAbove_18 (by decide) ?_
          exact ih_2 (i + 1) _ (by omega) (by omega) ((m_pw_s c_5 (by omega)).symm.trans hf) (lv_sub hl [0, 1] rfl)
  exact lp_2 _ 0 _ (Nat.lt_succ_self _) (by omega) rfl (lv_sub hl [0, 1] rfl)
set_option maxHeartbeats 4000000 in
set_option maxRecDepth 100000 in
theorem k_Heads_tellPasses_W (l : Launch) (dC : Nat → ClassId) (dI : Nat → Nat → Nat) (cI cZ cL : ClassId) (wr br bg row bz : Nat) (ms : Bool) (σ : wS) (n : Nat) (hok : okW (40) σ) (hn : n ≤ 164) :
    q_CI l (dC, dI) vwCl (tyL cI cZ cL) yHD_tellPasses wsHD_tellPasses (rmD 2) [.ref wr, .int (nI n)] [(wr, .inr (7, [.int (nI σ.1), .ref br, .ref bg, .int (nI σ.2.2.1), .int (bI ms), .int (nI σ.2.2.2.1), .int (nI σ.2.2.2.2)])), (br, .inr (0, [.ref row, .int (nI bz)])), (row, .inl (cI, 6000, .inl (fun j => nI (σ.2.1 j))))] (fun (z : Int32) (_ : Unit) => z = nI ((t_pass (bitW ms) (decide (1 < n)) (decide (2 < n)) (m_due (min (n - 3) 3)) (m_due (min (n - 6) 31)) (m_due (n - 37)) σ).1)) (fun (_ : Unit) => [(wr, .inr (7, [.int (nI ((t_pass (bitW ms) (decide (1 < n)) (decide (2 < n)) (m_due (min (n - 3) 3)) (m_due (min (n - 6) 31)) (m_due (n - 37)) σ).2.1)), .ref br, .ref bg, .int (nI ((t_pass (bitW ms) (decide (1 < n)) (decide (2 < n)) (m_due (min (n - 3) 3)) (m_due (min (n - 6) 31)) (m_due (n - 37)) σ).2.2.2.1)), .int (bI ms), .int (nI ((t_pass (bitW ms) (decide (1 < n)) (decide (2 < n)) (m_due (min (n - 3) 3)) (m_due (min (n - 6) 31)) (m_due (n - 37)) σ).2.2.2.2.1)), .int (nI ((t_pass (bitW ms) (decide (1 < n)) (decide (2 < n)) (m_due (min (n - 3) 3)) (m_due (min (n - 6) 31)) (m_due (n - 37)) σ).2.2.2.2.2))])), (br, .inr (0, [.ref row, .int (nI bz)])), (row, .inl (cI, 6000, .inl (fun j => nI (((t_pass (bitW ms) (decide (1 < n)) (decide (2 < n)) (m_due (min (n - 3) 3)) (m_due (min (n - 6) 31)) (m_due (n - 37)) σ).2.2.1) j))))]) := by
  refine q_entI "PacketRows$Heads" (by decide) rfl (fun _ _ _ => rfl) rfl (Nat.le_of_ble_eq_true rfl) ?_
  intro p e s m below meth c ls Q A hx hb hml hts hown hP hD hK hZ hO hA hS hl hret
  have hl : lv_has ls 4 [(0, .ref wr), (1, .int (nI n))] := hl
  refine lv_aload_n hx hb dHD_tellPasses_0 rfl (lv_at hl 0 rfl) ?_
  refine lv_iload_n hx hb dHD_tellPasses_1 rfl (lv_at hl 1 rfl) ?_
  refine lv_iconst (v := nI 1) hx hb dHD_tellPasses_2 (by decide +kernel) ?_
  have jn_11 : W p l e (headSpec wsHD_tellPasses (rmD 2)).room s m [.ref wr, .int (nI n)].toArray below meth c s.heap [] 0 0 Q (F0 m 11 ls [.int (bI (decide (1 < n))), .ref wr]) := by
    refine q_calli (va_runU (As := [.int (bI (decide (1 < n)))]) (rest := []) ⟨hx, hb, hml, hown, hts⟩ (k_Writer_bit l dC dI cI cZ cL wr br bg row bz ms σ (decide (1 < n)) (okW_le hok (by omega)) s.heap.size) (va_cwA (C := "PacketRows$Writer") (owner := "PacketRows$Bits") (x := ⟨"PacketRows$Bits", "bit", "(Z)Z"⟩) 1 hts (gA u_840 u_842 u_846 u_847 u_47 u_848) rfl rfl rfl (hZ.1 _ z_9) (by decide +kernel) ⟨Nat.le_of_ble_eq_true rfl, Nat.le_of_ble_eq_true rfl⟩) (q_preMV hK hZ hO hS hA hP hD [0, 1, 2] rfl (by decide) rfl rfl) rfl rfl hl.1 rfl (lv_room (Nat.le_of_ble_eq_true rfl)) dHD_tellPasses_11 ⟨Nat.le_of_ble_eq_true rfl, Nat.le_of_ble_eq_true rfl⟩) hP hD hS hA [0, 1, 2] rfl (by decide) (fun _ => by simp only [List.map_cons, List.map_nil]) (fun r_ u_ H locs hpost hP hD hS => ?_)
    have hP : va_P (dC, dI) vwCl [(wr, .inr (7, [.int (nI ((bitW ms σ (decide (1 < n))).2.1)), .ref br, .ref bg, .int (nI ((bitW ms σ (decide (1 < n))).2.2.2.1)), .int (bI ms), .int (nI ((bitW ms σ (decide (1 < n))).2.2.2.2.1)), .int (nI ((bitW ms σ (decide (1 < n))).2.2.2.2.2))])), (br, .inr (0, [.ref row, .int (nI bz)])), (row, .inl (cI, 6000, .inl (fun j => nI (((bitW ms σ (decide (1 < n))).2.2.1) j))))] H := hP
    have hD : va_D A [(wr, .inr (7, [.int (nI ((bitW ms σ (decide (1 < n))).2.1)), .ref br, .ref bg, .int (nI ((bitW ms σ (decide (1 < n))).2.2.2.1)), .int (bI ms), .int (nI ((bitW ms σ (decide (1 < n))).2.2.2.2.1)), .int (nI ((bitW ms σ (decide (1 < n))).2.2.2.2.2))])), (br, .inr (0, [.ref row, .int (nI bz)])), (row, .inl (cI, 6000, .inl (fun j => nI (((bitW ms σ (decide (1 < n))).2.2.1) j))))] := hD
    subst hpost
    obtain ⟨s1, es1⟩ : ∃ z : wS, z = (bitW ms σ (decide (1 < n))).2 := ⟨_, rfl⟩
    have hP : va_P (dC, dI) vwCl [(wr, .inr (7, [.int (nI s1.1), .ref br, .ref bg, .int (nI s1.2.2.1), .int (bI ms), .int (nI s1.2.2.2.1), .int (nI s1.2.2.2.2)])), (br, .inr (0, [.ref row, .int (nI bz)])), (row, .inl (cI, 6000, .inl (fun j => nI (s1.2.1 j))))] H := by rw [es1]; exact hP
    have hD : va_D A [(wr, .inr (7, [.int (nI s1.1), .ref br, .ref bg, .int (nI s1.2.2.1), .int (bI ms), .int (nI s1.2.2.2.1), .int (nI s1.2.2.2.2)])), (br, .inr (0, [.ref row, .int (nI bz)])), (row, .inl (cI, 6000, .inl (fun j => nI (s1.2.1 j))))] := by rw [es1]; exact hD
    have hok1 : okW (39) s1 := by rw [es1]; exact okW_bit (okW_le hok (by omega)) _
    refine qb_ine (tgt := 19) hx hb dHD_tellPasses_14 (by decide) (fun c_14 => ?_) (fun c_14 => ?_)
    · refine lv_aload_n hx hb dHD_tellPasses_19 rfl (lv_at hl 0 rfl) ?_
      refine lv_iload_n hx hb dHD_tellPasses_20 rfl (lv_at hl 1 rfl) ?_
      refine lv_iconst (v := nI 2) hx hb dHD_tellPasses_21 (by decide +kernel) ?_
      have jn_30 : W p l e (headSpec wsHD_tellPasses (rmD 2)).room s m [.ref wr, .int (nI n)].toArray below meth c H locs 0 0 Q (F0 m 30 ls [.int (bI (decide (2 < n))), .ref wr]) := by
        refine q_calli (va_runU (As := [.int (bI (decide (2 < n)))]) (rest := []) ⟨hx, hb, hml, hown, hts⟩ (k_Writer_bit l dC dI cI cZ cL wr br bg row bz ms s1 (decide (2 < n)) (okW_le hok1 (by omega)) H.size) (va_cwA (C := "PacketRows$Writer") (owner := "PacketRows$Bits") (x := ⟨"PacketRows$Bits", "bit", "(Z)Z"⟩) 1 hts (gA u_840 u_842 u_846 u_847 u_47 u_848) rfl rfl rfl (hZ.1 _ z_9) (by decide +kernel) ⟨Nat.le_of_ble_eq_true rfl, Nat.le_of_ble_eq_true rfl⟩) (q_preMV hK hZ hO hS hA hP hD [0, 1, 2] rfl (by decide) rfl rfl) rfl rfl hl.1 rfl (lv_room (Nat.le_of_ble_eq_true rfl)) dHD_tellPasses_30 ⟨Nat.le_of_ble_eq_true rfl, Nat.le_of_ble_eq_true rfl⟩) hP hD hS hA [0, 1, 2] rfl (by decide) (fun _ => by simp only [List.map_cons, List.map_nil]) (fun r_ u_ H locs hpost hP hD hS => ?_)
        have hP : va_P (dC, dI) vwCl [(wr, .inr (7, [.int (nI ((bitW ms s1 (decide (2 < n))).2.1)), .ref br, .ref bg, .int (nI ((bitW ms s1 (decide (2 < n))).2.2.2.1)), .int (bI ms), .int (nI ((bitW ms s1 (decide (2 < n))).2.2.2.2.1)), .int (nI ((bitW ms s1 (decide (2 < n))).2.2.2.2.2))])), (br, .inr (0, [.ref row, .int (nI bz)])), (row, .inl (cI, 6000, .inl (fun j => nI (((bitW ms s1 (decide (2 < n))).2.2.1) j))))] H := hP
        have hD : va_D A [(wr, .inr (7, [.int (nI ((bitW ms s1 (decide (2 < n))).2.1)), .ref br, .ref bg, .int (nI ((bitW ms s1 (decide (2 < n))).2.2.2.1)), .int (bI ms), .int (nI ((bitW ms s1 (decide (2 < n))).2.2.2.2.1)), .int (nI ((bitW ms s1 (decide (2 < n))).2.2.2.2.2))])), (br, .inr (0, [.ref row, .int (nI bz)])), (row, .inl (cI, 6000, .inl (fun j => nI (((bitW ms s1 (decide (2 < n))).2.2.1) j))))] := hD
        subst hpost
        obtain ⟨s2, es2⟩ : ∃ z : wS, z = (bitW ms s1 (decide (2 < n))).2 := ⟨_, rfl⟩
        have hP : va_P (dC, dI) vwCl [(wr, .inr (7, [.int (nI s2.1), .ref br, .ref bg, .int (nI s2.2.2.1), .int (bI ms), .int (nI s2.2.2.2.1), .int (nI s2.2.2.2.2)])), (br, .inr (0, [.ref row, .int (nI bz)])), (row, .inl (cI, 6000, .inl (fun j => nI (s2.2.1 j))))] H := by rw [es2]; exact hP
        have hD : va_D A [(wr, .inr (7, [.int (nI s2.1), .ref br, .ref bg, .int (nI s2.2.2.1), .int (bI ms), .int (nI s2.2.2.2.1), .int (nI s2.2.2.2.2)])), (br, .inr (0, [.ref row, .int (nI bz)])), (row, .inl (cI, 6000, .inl (fun j => nI (s2.2.1 j))))] := by rw [es2]; exact hD
        have hok2 : okW (38) s2 := by rw [es2]; exact okW_bit (okW_le hok1 (by omega)) _
        refine qb_ine (tgt := 38) hx hb dHD_tellPasses_33 (by decide) (fun c_33 => ?_) (fun c_33 => ?_)
        · refine lv_aload_n hx hb dHD_tellPasses_38 rfl (lv_at hl 0 rfl) ?_
          refine lv_iload_n hx hb dHD_tellPasses_39 rfl (lv_at hl 1 rfl) ?_
          refine lv_iconst (v := nI 3) hx hb dHD_tellPasses_40 (by decide +kernel) ?_
          refine qn_isub hx hb dHD_tellPasses_41 (by have := of_decide_eq_true c_33; omega) ?_
          refine lv_iconst (v := nI 3) hx hb dHD_tellPasses_42 (by decide +kernel) ?_
          refine va_mmin hx hb (by rw [hml]; exact hl.1.symm) hown (hU hts u_873) (hU hts u_82) (hU hts u_42) (hU hts u_83) (Nat.le_of_ble_eq_true rfl) (Nat.le_of_ble_eq_true rfl) (Nat.le_of_ble_eq_true rfl) (Nat.le_of_ble_eq_true rfl) dHD_tellPasses_43 ?_
          refine qn_eq (y := nI (min (n - 3) 3)) (q_min (by omega) (by omega)) ?_
          refine lv_iconst (v := nI 2) hx hb dHD_tellPasses_46 (by decide +kernel) ?_
          have e7 : t_pass (bitW ms) (decide (1 < n)) (decide (2 < n)) (m_due (min (n - 3) 3)) (m_due (min (n - 6) 31)) (m_due (n - 37)) σ = t_p2 (bitW ms) (m_due (min (n - 3) 3)) (m_due (min (n - 6) 31)) (m_due (n - 37)) s2 := by unfold t_pass; rw [if_neg (show ¬ (bitW ms σ (decide (1 < n))).1 = false from by rw [show (bitW ms σ (decide (1 < n))).1 = true from c_14]; decide), ← es1, if_neg (show ¬ (bitW ms s1 (decide (2 < n))).1 = false from by rw [show (bitW ms s1 (decide (2 < n))).1 = true from c_33]; decide), ← es2]
          refine q_calli (va_runU (As := [.int (nI (min (n - 3) 3)), .int (nI 2)]) (rest := []) ⟨hx, hb, hml, hown, hts⟩ (k_Bits_number_W l dC dI cI cZ cL wr br bg row bz ms s2 (min (n - 3) 3) 2 (okW_le hok2 (by omega)) (by omega) (by omega) H.size) (q_cwU (C := "PacketRows$Writer") (owner := "PacketRows$Bits") (x := ⟨"PacketRows$Bits", "number", "(II)I"⟩) 2 hts (gA u_874 u_876 u_878 u_875 u_46 u_879) rfl rfl rfl (hU hts u_875) (hU hts u_879) (by decide +kernel) ⟨Nat.le_of_ble_eq_true rfl, Nat.le_of_ble_eq_true rfl⟩) (q_preMV hK hZ hO hS hA hP hD [0, 1, 2] rfl (by decide) rfl rfl) rfl rfl hl.1 rfl (lv_room (Nat.le_of_ble_eq_true rfl)) dHD_tellPasses_47 ⟨Nat.le_of_ble_eq_true rfl, Nat.le_of_ble_eq_true rfl⟩) hP hD hS hA [0, 1, 2] rfl (by decide) (fun _ => by simp only [List.map_cons, List.map_nil]) (fun r_ u_ H locs hpost hP hD hS => ?_)
          have hP : va_P (dC, dI) vwCl [(wr, .inr (7, [.int (nI ((t_num (bitW ms) (m_due (min (n - 3) 3)) 2 0 s2).2.1)), .ref br, .ref bg, .int (nI ((t_num (bitW ms) (m_due (min (n - 3) 3)) 2 0 s2).2.2.2.1)), .int (bI ms), .int (nI ((t_num (bitW ms) (m_due (min (n - 3) 3)) 2 0 s2).2.2.2.2.1)), .int (nI ((t_num (bitW ms) (m_due (min (n - 3) 3)) 2 0 s2).2.2.2.2.2))])), (br, .inr (0, [.ref row, .int (nI bz)])), (row, .inl (cI, 6000, .inl (fun j => nI (((t_num (bitW ms) (m_due (min (n - 3) 3)) 2 0 s2).2.2.1) j))))] H := hP
          have hD : va_D A [(wr, .inr (7, [.int (nI ((t_num (bitW ms) (m_due (min (n - 3) 3)) 2 0 s2).2.1)), .ref br, .ref bg, .int (nI ((t_num (bitW ms) (m_due (min (n - 3) 3)) 2 0 s2).2.2.2.1)), .int (bI ms), .int (nI ((t_num (bitW ms) (m_due (min (n - 3) 3)) 2 0 s2).2.2.2.2.1)), .int (nI ((t_num (bitW ms) (m_due (min (n - 3) 3)) 2 0 s2).2.2.2.2.2))])), (br, .inr (0, [.ref row, .int (nI bz)])), (row, .inl (cI, 6000, .inl (fun j => nI (((t_num (bitW ms) (m_due (min (n - 3) 3)) 2 0 s2).2.2.1) j))))] := hD
          subst hpost
          obtain ⟨s3, es3⟩ : ∃ z : wS, z = (t_num (bitW ms) (m_due (min (n - 3) 3)) 2 0 s2).2 := ⟨_, rfl⟩
          have hP : va_P (dC, dI) vwCl [(wr, .inr (7, [.int (nI s3.1), .ref br, .ref bg, .int (nI s3.2.2.1), .int (bI ms), .int (nI s3.2.2.2.1), .int (nI s3.2.2.2.2)])), (br, .inr (0, [.ref row, .int (nI bz)])), (row, .inl (cI, 6000, .inl (fun j => nI (s3.2.1 j))))] H := by rw [es3]; exact hP
          have hD : va_D A [(wr, .inr (7, [.int (nI s3.1), .ref br, .ref bg, .int (nI s3.2.2.1), .int (bI ms), .int (nI s3.2.2.2.1), .int (nI s3.2.2.2.2)])), (br, .inr (0, [.ref row, .int (nI bz)])), (row, .inl (cI, 6000, .inl (fun j => nI (s3.2.1 j))))] := by rw [es3]; exact hD
          have hok3 : okW (30) s3 := by rw [es3]; exact okW_num (okW_le hok2 (by omega)) _ _
          refine lv_istore_n (lv' := [(2, .int (nI ((t_num (bitW ms) (m_due (min (n - 3) 3)) 2 0 s2).1))), (0, .ref wr), (1, .int (nI n))]) hx hb dHD_tellPasses_50 rfl hl (by decide) rfl (fun ls hl => ?_)
          refine lv_iload_n hx hb dHD_tellPasses_51 rfl (lv_at hl 0 rfl) ?_
          refine lv_iconst (v := nI 3) hx hb dHD_tellPasses_52 (by decide +kernel) ?_
          refine qn_cge (tgt := 60) hx hb dHD_tellPasses_53 (by decide) (by have := t_num_lt (bitW ms) (m_due (min (n - 3) 3)) 2 0 s2; omega) (by omega) (fun c_53 => ?_) (fun c_53 => ?_)
          · refine lv_aload_n hx hb dHD_tellPasses_60 rfl (lv_at hl 1 rfl) ?_
            refine lv_iload_n hx hb dHD_tellPasses_61 rfl (lv_at hl 2 rfl) ?_
            refine lv_bipush (v := nI 6) hx hb dHD_tellPasses_62 (by decide +kernel) ?_
            refine qn_isub hx hb dHD_tellPasses_64 (by have h9 := c_53; rw [t_numW_val] at h9; omega) ?_
            refine lv_bipush (v := nI 31) hx hb dHD_tellPasses_65 (by decide +kernel) ?_
            refine va_mmin hx hb (by rw [hml]; exact hl.1.symm) hown (hU hts u_873) (hU hts u_82) (hU hts u_42) (hU hts u_83) (Nat.le_of_ble_eq_true rfl) (Nat.le_of_ble_eq_true rfl) (Nat.le_of_ble_eq_true rfl) (Nat.le_of_ble_eq_true rfl) dHD_tellPasses_67 ?_
            refine qn_eq (y := nI (min (n - 6) 31)) (q_min (by omega) (by omega)) ?_
            refine lv_iconst (v := nI 5) hx hb dHD_tellPasses_70 (by decide +kernel) ?_
            have e6 : t_pass (bitW ms) (decide (1 < n)) (decide (2 < n)) (m_due (min (n - 3) 3)) (m_due (min (n - 6) 31)) (m_due (n - 37)) σ = t_p5 (bitW ms) (m_due (min (n - 6) 31)) (m_due (n - 37)) s3 := by rw [e7, t_p2, if_neg (by omega), ← es3]
            refine q_calli (va_runU (As := [.int (nI (min (n - 6) 31)), .int (nI 5)]) (rest := []) ⟨hx, hb, hml, hown, hts⟩ (k_Bits_number_W l dC dI cI cZ cL wr br bg row bz ms s3 (min (n - 6) 31) 5 (okW_le hok3 (by omega)) (by omega) (by omega) H.size) (q_cwU (C := "PacketRows$Writer") (owner := "PacketRows$Bits") (x := ⟨"PacketRows$Bits", "number", "(II)I"⟩) 2 hts (gA u_874 u_876 u_878 u_875 u_46 u_879) rfl rfl rfl (hU hts u_875) (hU hts u_879) (by decide +kernel) ⟨Nat.le_of_ble_eq_true rfl, Nat.le_of_ble_eq_true rfl⟩) (q_preMV hK hZ hO hS hA hP hD [0, 1, 2] rfl (by decide) rfl rfl) rfl rfl hl.1 rfl (lv_room (Nat.le_of_ble_eq_true rfl)) dHD_tellPasses_71 ⟨Nat.le_of_ble_eq_true rfl, Nat.le_of_ble_eq_true rfl⟩) hP hD hS hA [0, 1, 2] rfl (by decide) (fun _ => by simp only [List.map_cons, List.map_nil]) (fun r_ u_ H locs hpost hP hD hS => ?_)
            have hP : va_P (dC, dI) vwCl [(wr, .inr (7, [.int (nI ((t_num (bitW ms) (m_due (min (n - 6) 31)) 5 0 s3).2.1)), .ref br, .ref bg, .int (nI ((t_num (bitW ms) (m_due (min (n - 6) 31)) 5 0 s3).2.2.2.1)), .int (bI ms), .int (nI ((t_num (bitW ms) (m_due (min (n - 6) 31)) 5 0 s3).2.2.2.2.1)), .int (nI ((t_num (bitW ms) (m_due (min (n - 6) 31)) 5 0 s3).2.2.2.2.2))])), (br, .inr (0, [.ref row, .int (nI bz)])), (row, .inl (cI, 6000, .inl (fun j => nI (((t_num (bitW ms) (m_due (min (n - 6) 31)) 5 0 s3).2.2.1) j))))] H := hP
            have hD : va_D A [(wr, .inr (7, [.int (nI ((t_num (bitW ms) (m_due (min (n - 6) 31)) 5 0 s3).2.1)), .ref br, .ref bg, .int (nI ((t_num (bitW ms) (m_due (min (n - 6) 31)) 5 0 s3).2.2.2.1)), .int (bI ms), .int (nI ((t_num (bitW ms) (m_due (min (n - 6) 31)) 5 0 s3).2.2.2.2.1)), .int (nI ((t_num (bitW ms) (m_due (min (n - 6) 31)) 5 0 s3).2.2.2.2.2))])), (br, .inr (0, [.ref row, .int (nI bz)])), (row, .inl (cI, 6000, .inl (fun j => nI (((t_num (bitW ms) (m_due (min (n - 6) 31)) 5 0 s3).2.2.1) j))))] := hD
            subst hpost
            obtain ⟨s4, es4⟩ : ∃ z : wS, z = (t_num (bitW ms) (m_due (min (n - 6) 31)) 5 0 s3).2 := ⟨_, rfl⟩
            have hP : va_P (dC, dI) vwCl [(wr, .inr (7, [.int (nI s4.1), .ref br, .ref bg, .int (nI s4.2.2.1), .int (bI ms), .int (nI s4.2.2.2.1), .int (nI s4.2.2.2.2)])), (br, .inr (0, [.ref row, .int (nI bz)])), (row, .inl (cI, 6000, .inl (fun j => nI (s4.2.1 j))))] H := by rw [es4]; exact hP
            have hD : va_D A [(wr, .inr (7, [.int (nI s4.1), .ref br, .ref bg, .int (nI s4.2.2.1), .int (bI ms), .int (nI s4.2.2.2.1), .int (nI s4.2.2.2.2)])), (br, .inr (0, [.ref row, .int (nI bz)])), (row, .inl (cI, 6000, .inl (fun j => nI (s4.2.1 j))))] := by rw [es4]; exact hD
            have hok4 : okW (20) s4 := by rw [es4]; exact okW_num (okW_le hok3 (by omega)) _ _
            refine lv_istore_n (lv' := [(3, .int (nI ((t_num (bitW ms) (m_due (min (n - 6) 31)) 5 0 s3).1))), (2, .int (nI ((t_num (bitW ms) (m_due (min (n - 3) 3)) 2 0 s2).1))), (0, .ref wr), (1, .int (nI n))]) hx hb dHD_tellPasses_74 rfl hl (by decide) rfl (fun ls hl => ?_)
            refine lv_iload_n hx hb dHD_tellPasses_75 rfl (lv_at hl 0 rfl) ?_
            refine lv_bipush (v := nI 31) hx hb dHD_tellPasses_76 (by decide +kernel) ?_
            refine qn_cge (tgt := 86) hx hb dHD_tellPasses_78 (by decide) (by have := t_num_lt (bitW ms) (m_due (min (n - 6) 31)) 5 0 s3; omega) (by omega) (fun c_78 => ?_) (fun c_78 => ?_)
            · refine lv_bipush (v := nI 37) hx hb dHD_tellPasses_86 (by decide +kernel) ?_
              refine lv_aload_n hx hb dHD_tellPasses_88 rfl (lv_at hl 2 rfl) ?_
              refine lv_iload_n hx hb dHD_tellPasses_89 rfl (lv_at hl 3 rfl) ?_
              refine lv_bipush (v := nI 37) hx hb dHD_tellPasses_90 (by decide +kernel) ?_
              refine qn_isub hx hb dHD_tellPasses_92 (by have h9 := c_78; rw [t_numW_val] at h9; omega) ?_
              refine lv_bipush (v := nI 7) hx hb dHD_tellPasses_93 (by decide +kernel) ?_
              refine q_calli (va_runU (As := [.int (nI (n - 37)), .int (nI 7)]) (rest := [.int (nI 37)]) ⟨hx, hb, hml, hown, hts⟩ (k_Bits_number_W l dC dI cI cZ cL wr br bg row bz ms s4 (n - 37) 7 (okW_le hok4 (by omega)) (by omega) (by omega) H.size) (q_cwU (C := "PacketRows$Writer") (owner := "PacketRows$Bits") (x := ⟨"PacketRows$Bits", "number", "(II)I"⟩) 2 hts (gA u_874 u_876 u_878 u_875 u_46 u_879) rfl rfl rfl (hU hts u_875) (hU hts u_879) (by decide +kernel) ⟨Nat.le_of_ble_eq_true rfl, Nat.le_of_ble_eq_true rfl⟩) (q_preMV hK hZ hO hS hA hP hD [0, 1, 2] rfl (by decide) rfl rfl) rfl rfl hl.1 rfl (lv_room (Nat.le_of_ble_eq_true rfl)) dHD_tellPasses_95 ⟨Nat.le_of_ble_eq_true rfl, Nat.le_of_ble_eq_true rfl⟩) hP hD hS hA [0, 1, 2] rfl (by decide) (fun _ => by simp only [List.map_cons, List.map_nil]) (fun r_ u_ H locs hpost hP hD hS => ?_)
              have hP : va_P (dC, dI) vwCl [(wr, .inr (7, [.int (nI ((t_num (bitW ms) (m_due (n - 37)) 7 0 s4).2.1)), .ref br, .ref bg, .int (nI ((t_num (bitW ms) (m_due (n - 37)) 7 0 s4).2.2.2.1)), .int (bI ms), .int (nI ((t_num (bitW ms) (m_due (n - 37)) 7 0 s4).2.2.2.2.1)), .int (nI ((t_num (bitW ms) (m_due (n - 37)) 7 0 s4).2.2.2.2.2))])), (br, .inr (0, [.ref row, .int (nI bz)])), (row, .inl (cI, 6000, .inl (fun j => nI (((t_num (bitW ms) (m_due (n - 37)) 7 0 s4).2.2.1) j))))] H := hP
              have hD : va_D A [(wr, .inr (7, [.int (nI ((t_num (bitW ms) (m_due (n - 37)) 7 0 s4).2.1)), .ref br, .ref bg, .int (nI ((t_num (bitW ms) (m_due (n - 37)) 7 0 s4).2.2.2.1)), .int (bI ms), .int (nI ((t_num (bitW ms) (m_due (n - 37)) 7 0 s4).2.2.2.2.1)), .int (nI ((t_num (bitW ms) (m_due (n - 37)) 7 0 s4).2.2.2.2.2))])), (br, .inr (0, [.ref row, .int (nI bz)])), (row, .inl (cI, 6000, .inl (fun j => nI (((t_num (bitW ms) (m_due (n - 37)) 7 0 s4).2.2.1) j))))] := hD
              subst hpost
              obtain ⟨s5, es5⟩ : ∃ z : wS, z = (t_num (bitW ms) (m_due (n - 37)) 7 0 s4).2 := ⟨_, rfl⟩
              have hP : va_P (dC, dI) vwCl [(wr, .inr (7, [.int (nI s5.1), .ref br, .ref bg, .int (nI s5.2.2.1), .int (bI ms), .int (nI s5.2.2.2.1), .int (nI s5.2.2.2.2)])), (br, .inr (0, [.ref row, .int (nI bz)])), (row, .inl (cI, 6000, .inl (fun j => nI (s5.2.1 j))))] H := by rw [es5]; exact hP
              have hD : va_D A [(wr, .inr (7, [.int (nI s5.1), .ref br, .ref bg, .int (nI s5.2.2.1), .int (bI ms), .int (nI s5.2.2.2.1), .int (nI s5.2.2.2.2)])), (br, .inr (0, [.ref row, .int (nI bz)])), (row, .inl (cI, 6000, .inl (fun j => nI (s5.2.1 j))))] := by rw [es5]; exact hD
              refine qn_iadd hx hb dHD_tellPasses_98 ?_
              have e9 : (37 + (t_num (bitW ms) (m_due (n - 37)) 7 0 s4).1, s5) = t_pass (bitW ms) (decide (1 < n)) (decide (2 < n)) (m_due (min (n - 3) 3)) (m_due (min (n - 6) 31)) (m_due (n - 37)) σ := by rw [e6, t_p5, if_neg (by omega), ← es4, ← es5]
              exact hret _ () _ _ _ _ dHD_tellPasses_99 (by rw [← e9]) (by rw [← e9]; exact hP) hS
            · refine lv_bipush (v := nI 6) hx hb dHD_tellPasses_81 (by decide +kernel) ?_
              refine lv_iload_n hx hb dHD_tellPasses_83 rfl (lv_at hl 0 rfl) ?_
              refine qn_iadd hx hb dHD_tellPasses_84 ?_
              have e9 : (6 + (t_num (bitW ms) (m_due (min (n - 6) 31)) 5 0 s3).1, s4) = t_pass (bitW ms) (decide (1 < n)) (decide (2 < n)) (m_due (min (n - 3) 3)) (m_due (min (n - 6) 31)) (m_due (n - 37)) σ := by rw [e6, t_p5, if_pos c_78, ← es4]
              exact hret _ () _ _ _ _ dHD_tellPasses_85 (by rw [← e9]) (by rw [← e9]; exact hP) hS
          · refine lv_iconst (v := nI 3) hx hb dHD_tellPasses_56 (by decide +kernel) ?_
            refine lv_iload_n hx hb dHD_tellPasses_57 rfl (lv_at hl 0 rfl) ?_
            refine qn_iadd hx hb dHD_tellPasses_58 ?_
            have e9 : (3 + (t_num (bitW ms) (m_due (min (n - 3) 3)) 2 0 s2).1, s3) = t_pass (bitW ms) (decide (1 < n)) (decide (2 < n)) (m_due (min (n - 3) 3)) (m_due (min (n - 6) 31)) (m_due (n - 37)) σ := by rw [e7, t_p2, if_pos c_53, ← es3]
            exact hret _ () _ _ _ _ dHD_tellPasses_59 (by rw [← e9]) (by rw [← e9]; exact hP) hS
        · refine lv_iconst (v := nI 2) hx hb dHD_tellPasses_36 (by decide +kernel) ?_
          have e9 : (2, s2) = t_pass (bitW ms) (decide (1 < n)) (decide (2 < n)) (m_due (min (n - 3) 3)) (m_due (min (n - 6) 31)) (m_due (n - 37)) σ := by unfold t_pass; rw [if_neg (show ¬ (bitW ms σ (decide (1 < n))).1 = false from by rw [show (bitW ms σ (decide (1 < n))).1 = true from c_14]; decide), ← es1, if_pos (show (bitW ms s1 (decide (2 < n))).1 = false from c_33), ← es2]
          exact hret _ () _ _ _ _ dHD_tellPasses_37 (by rw [← e9]) (by rw [← e9]; exact hP) hS
      refine qn_cle (tgt := 29) hx hb dHD_tellPasses_22 (by decide) (by omega) (by omega) (fun c_22 => ?_) (fun c_22 => ?_)
      · refine lv_iconst (v := nI 0) hx hb dHD_tellPasses_29 (by decide +kernel) ?_
        exact qn_eq (by rw [decide_eq_false (by first | exact c_22 | exact Int32.not_lt.mpr c_22 | exact Int32.not_le.mpr c_22 | omega)]; rfl) jn_30
      · refine lv_iconst (v := nI 1) hx hb dHD_tellPasses_25 (by decide +kernel) ?_
        refine lv_goto (tgt := 30) hx hb dHD_tellPasses_26 (by decide) ?_
        exact qn_eq (by rw [decide_eq_true (by first | exact c_22 | exact Int32.not_le.mp c_22 | exact Int32.not_lt.mp c_22 | omega)]; rfl) jn_30
    · refine lv_iconst (v := nI 1) hx hb dHD_tellPasses_17 (by decide +kernel) ?_
      have e9 : (1, s1) = t_pass (bitW ms) (decide (1 < n)) (decide (2 < n)) (m_due (min (n - 3) 3)) (m_due (min (n - 6) 31)) (m_due (n - 37)) σ := by unfold t_pass; rw [if_pos (show (bitW ms σ (decide (1 < n))).1 = false from c_14), ← es1]
      exact hret _ () _ _ _ _ dHD_tellPasses_18 (by rw [← e9]) (by rw [← e9]; exact hP) hS
  refine qn_cle (tgt := 10) hx hb dHD_tellPasses_3 (by decide) (by omega) (by omega) (fun c_3 => ?_) (fun c_3 => ?_)
  · refine lv_iconst (v := nI 0) hx hb dHD_tellPasses_10 (by decide +kernel) ?_
    exact qn_eq (by rw [decide_eq_false (by first | exact c_3 | exact Int32.not_lt.mpr c_3 | exact Int32.not_le.mpr c_3 | omega)]; rfl) jn_11
  · refine lv_iconst (v := nI 1) hx hb dHD_tellPasses_6 (by decide +kernel) ?_
    refine lv_goto (tgt := 11) hx hb dHD_tellPasses_7 (by decide) ?_
    exact qn_eq (by rw [decide_eq_true (by first | exact c_3 | exact Int32.not_le.mp c_3 | exact Int32.not_lt.mp c_3 | omega)]; rfl) jn_11
set_option maxHeartbeats 4000000 in
set_option maxRecDepth 100000 in
theorem k_Heads_tellPasses_R (l : Launch) (dC : Nat → ClassId) (dI : Nat → Nat → Nat) (cI cZ cL : ClassId) (rd br row bz : Nat) (f : Nat → Nat) (σ : rS) (x : Int32) (hok : okR bz σ) (hbz : bz ≤ 6000) (hf5 : ∀ j, f j < 256) :
    q_CI l (dC, dI) vwCl (tyL cI cZ cL) yHD_tellPasses wsHD_tellPasses (rmD 2) [.ref rd, .int x] [(rd, .inr (4, [.int (nI σ.1), .ref br, .int (nI σ.2.1), .int (nI σ.2.2.1), .int (nI σ.2.2.2)])), (br, .inr (0, [.ref row, .int (nI bz)])), (row, .inl (cI, 6000, .inl (fun j => nI (f j))))] (fun (z : Int32) (_ : Unit) => z = nI ((t_pass (bitR f bz) false false (fun _ => false) (fun _ => false) (fun _ => false) σ).1)) (fun (_ : Unit) => [(rd, .inr (4, [.int (nI ((t_pass (bitR f bz) false false (fun _ => false) (fun _ => false) (fun _ => false) σ).2.1)), .ref br, .int (nI ((t_pass (bitR f bz) false false (fun _ => false) (fun _ => false) (fun _ => false) σ).2.2.1)), .int (nI ((t_pass (bitR f bz) false false (fun _ => false) (fun _ => false) (fun _ => false) σ).2.2.2.1)), .int (nI ((t_pass (bitR f bz) false false (fun _ => false) (fun _ => false) (fun _ => false) σ).2.2.2.2))])), (br, .inr (0, [.ref row, .int (nI bz)])), (row, .inl (cI, 6000, .inl (fun j => nI (f j))))]) := by
  refine q_entI "PacketRows$Heads" (by decide) rfl (fun _ _ _ => rfl) rfl (Nat.le_of_ble_eq_true rfl) ?_
  intro p e s m below meth c ls Q A hx hb hml hts hown hP hD hK hZ hO hA hS hl hret
  have hl : lv_has ls 4 [(0, .ref rd), (1, .int x)] := hl
  refine lv_aload_n hx hb dHD_tellPasses_0 rfl (lv_at hl 0 rfl) ?_
  refine lv_iload_n hx hb dHD_tellPasses_1 rfl (lv_at hl 1 rfl) ?_
  refine lv_iconst (v := nI 1) hx hb dHD_tellPasses_2 (by decide +kernel) ?_
  have jn_11 : W p l e (headSpec wsHD_tellPasses (rmD 2)).room s m [.ref rd, .int x].toArray below meth c s.heap [] 0 0 Q (F0 m 11 ls [.int (bI (decide (nI 1 < x))), .ref rd]) := by
    refine q_calli (va_runU (As := [.int (bI (decide (nI 1 < x)))]) (rest := []) ⟨hx, hb, hml, hown, hts⟩ (k_Reader_bit l dC dI cI cZ cL rd br row bz f σ (decide (nI 1 < x)) hok hbz hf5 s.heap.size) (va_cwA (C := "PacketRows$Reader") (owner := "PacketRows$Bits") (x := ⟨"PacketRows$Bits", "bit", "(Z)Z"⟩) 1 hts (gA u_840 u_842 u_843 u_844 u_48 u_845) rfl rfl rfl (hZ.1 _ z_9) (by decide +kernel) ⟨Nat.le_of_ble_eq_true rfl, Nat.le_of_ble_eq_true rfl⟩) (q_preMV hK hZ hO hS hA hP hD [0, 1, 2] rfl (by decide) rfl rfl) rfl rfl hl.1 rfl (lv_room (Nat.le_of_ble_eq_true rfl)) dHD_tellPasses_11 ⟨Nat.le_of_ble_eq_true rfl, Nat.le_of_ble_eq_true rfl⟩) hP hD hS hA [0, 1, 2] rfl (by decide) (fun _ => by simp only [List.map_cons, List.map_nil]) (fun r_ u_ H locs hpost hP hD hS => ?_)
    have hP : va_P (dC, dI) vwCl [(rd, .inr (4, [.int (nI ((bitR f bz σ false).2.1)), .ref br, .int (nI ((bitR f bz σ false).2.2.1)), .int (nI ((bitR f bz σ false).2.2.2.1)), .int (nI ((bitR f bz σ false).2.2.2.2))])), (br, .inr (0, [.ref row, .int (nI bz)])), (row, .inl (cI, 6000, .inl (fun j => nI (f j))))] H := hP
    have hD : va_D A [(rd, .inr (4, [.int (nI ((bitR f bz σ false).2.1)), .ref br, .int (nI ((bitR f bz σ false).2.2.1)), .int (nI ((bitR f bz σ false).2.2.2.1)), .int (nI ((bitR f bz σ false).2.2.2.2))])), (br, .inr (0, [.ref row, .int (nI bz)])), (row, .inl (cI, 6000, .inl (fun j => nI (f j))))] := hD
    subst hpost
    obtain ⟨s1, es1⟩ : ∃ z : rS, z = (bitR f bz σ false).2 := ⟨_, rfl⟩
    have hP : va_P (dC, dI) vwCl [(rd, .inr (4, [.int (nI s1.1), .ref br, .int (nI s1.2.1), .int (nI s1.2.2.1), .int (nI s1.2.2.2)])), (br, .inr (0, [.ref row, .int (nI bz)])), (row, .inl (cI, 6000, .inl (fun j => nI (f j))))] H := by rw [es1]; exact hP
    have hD : va_D A [(rd, .inr (4, [.int (nI s1.1), .ref br, .int (nI s1.2.1), .int (nI s1.2.2.1), .int (nI s1.2.2.2)])), (br, .inr (0, [.ref row, .int (nI bz)])), (row, .inl (cI, 6000, .inl (fun j => nI (f j))))] := by rw [es1]; exact hD
    have hok1 : okR bz s1 := by rw [es1]; exact okR_bit hf5 hok _
    refine qb_ine (tgt := 19) hx hb dHD_tellPasses_14 (by decide) (fun c_14 => ?_) (fun c_14 => ?_)
    · refine lv_aload_n hx hb dHD_tellPasses_19 rfl (lv_at hl 0 rfl) ?_
      refine lv_iload_n hx hb dHD_tellPasses_20 rfl (lv_at hl 1 rfl) ?_
      refine lv_iconst (v := nI 2) hx hb dHD_tellPasses_21 (by decide +kernel) ?_
      have jn_30 : W p l e (headSpec wsHD_tellPasses (rmD 2)).room s m [.ref rd, .int x].toArray below meth c H locs 0 0 Q (F0 m 30 ls [.int (bI (decide (nI 2 < x))), .ref rd]) := by
        refine q_calli (va_runU (As := [.int (bI (decide (nI 2 < x)))]) (rest := []) ⟨hx, hb, hml, hown, hts⟩ (k_Reader_bit l dC dI cI cZ cL rd br row bz f s1 (decide (nI 2 < x)) hok1 hbz hf5 H.size) (va_cwA (C := "PacketRows$Reader") (owner := "PacketRows$Bits") (x := ⟨"PacketRows$Bits", "bit", "(Z)Z"⟩) 1 hts (gA u_840 u_842 u_843 u_844 u_48 u_845) rfl rfl rfl (hZ.1 _ z_9) (by decide +kernel) ⟨Nat.le_of_ble_eq_true rfl, Nat.le_of_ble_eq_true rfl⟩) (q_preMV hK hZ hO hS hA hP hD [0, 1, 2] rfl (by decide) rfl rfl) rfl rfl hl.1 rfl (lv_room (Nat.le_of_ble_eq_true rfl)) dHD_tellPasses_30 ⟨Nat.le_of_ble_eq_true rfl, Nat.le_of_ble_eq_true rfl⟩) hP hD hS hA [0, 1, 2] rfl (by decide) (fun _ => by simp only [List.map_cons, List.map_nil]) (fun r_ u_ H locs hpost hP hD hS => ?_)
        have hP : va_P (dC, dI) vwCl [(rd, .inr (4, [.int (nI ((bitR f bz s1 false).2.1)), .ref br, .int (nI ((bitR f bz s1 false).2.2.1)), .int (nI ((bitR f bz s1 false).2.2.2.1)), .int (nI ((bitR f bz s1 false).2.2.2.2))])), (br, .inr (0, [.ref row, .int (nI bz)])), (row, .inl (cI, 6000, .inl (fun j => nI (f j))))] H := hP
        have hD : va_D A [(rd, .inr (4, [.int (nI ((bitR f bz s1 false).2.1)), .ref br, .int (nI ((bitR f bz s1 false).2.2.1)), .int (nI ((bitR f bz s1 false).2.2.2.1)), .int (nI ((bitR f bz s1 false).2.2.2.2))])), (br, .inr (0, [.ref row, .int (nI bz)])), (row, .inl (cI, 6000, .inl (fun j => nI (f j))))] := hD
        subst hpost
        obtain ⟨s2, es2⟩ : ∃ z : rS, z = (bitR f bz s1 false).2 := ⟨_, rfl⟩
        have hP : va_P (dC, dI) vwCl [(rd, .inr (4, [.int (nI s2.1), .ref br, .int (nI s2.2.1), .int (nI s2.2.2.1), .int (nI s2.2.2.2)])), (br, .inr (0, [.ref row, .int (nI bz)])), (row, .inl (cI, 6000, .inl (fun j => nI (f j))))] H := by rw [es2]; exact hP
        have hD : va_D A [(rd, .inr (4, [.int (nI s2.1), .ref br, .int (nI s2.2.1), .int (nI s2.2.2.1), .int (nI s2.2.2.2)])), (br, .inr (0, [.ref row, .int (nI bz)])), (row, .inl (cI, 6000, .inl (fun j => nI (f j))))] := by rw [es2]; exact hD
        have hok2 : okR bz s2 := by rw [es2]; exact okR_bit hf5 hok1 _
        refine qb_ine (tgt := 38) hx hb dHD_tellPasses_33 (by decide) (fun c_33 => ?_) (fun c_33 => ?_)
        · refine lv_aload_n hx hb dHD_tellPasses_38 rfl (lv_at hl 0 rfl) ?_
          refine lv_iload_n hx hb dHD_tellPasses_39 rfl (lv_at hl 1 rfl) ?_
          refine lv_iconst (v := nI 3) hx hb dHD_tellPasses_40 (by decide +kernel) ?_
          refine lv_isub hx hb dHD_tellPasses_41 ?_
          refine lv_iconst (v := nI 3) hx hb dHD_tellPasses_42 (by decide +kernel) ?_
          refine va_mmin hx hb (by rw [hml]; exact hl.1.symm) hown (hU hts u_873) (hU hts u_82) (hU hts u_42) (hU hts u_83) (Nat.le_of_ble_eq_true rfl) (Nat.le_of_ble_eq_true rfl) (Nat.le_of_ble_eq_true rfl) (Nat.le_of_ble_eq_true rfl) dHD_tellPasses_43 ?_
          refine lv_topi (fun y1 ey1 => ?_)
          refine lv_iconst (v := nI 2) hx hb dHD_tellPasses_46 (by decide +kernel) ?_
          have e7 : t_pass (bitR f bz) false false (fun _ => false) (fun _ => false) (fun _ => false) σ = t_p2 (bitR f bz) (fun _ => false) (fun _ => false) (fun _ => false) s2 := by unfold t_pass; rw [if_neg (show ¬ (bitR f bz σ false).1 = false from by rw [show (bitR f bz σ false).1 = true from c_14]; decide), ← es1, if_neg (show ¬ (bitR f bz s1 false).1 = false from by rw [show (bitR f bz s1 false).1 = true from c_33]; decide), ← es2]
          refine q_calli (va_runU (As := [.int y1, .int (nI 2)]) (rest := []) ⟨hx, hb, hml, hown, hts⟩ (k_Bits_number_R l dC dI cI cZ cL rd br row bz f s2 y1 2 hok2 (by omega) hbz hf5 H.size) (q_cwU (C := "PacketRows$Reader") (owner := "PacketRows$Bits") (x := ⟨"PacketRows$Bits", "number", "(II)I"⟩) 2 hts (gA u_874 u_876 u_877 u_875 u_46 u_879) rfl rfl rfl (hU hts u_875) (hU hts u_879) (by decide +kernel) ⟨Nat.le_of_ble_eq_true rfl, Nat.le_of_ble_eq_true rfl⟩) (q_preMV hK hZ hO hS hA hP hD [0, 1, 2] rfl (by decide) rfl rfl) rfl rfl hl.1 rfl (lv_room (Nat.le_of_ble_eq_true rfl)) dHD_tellPasses_47 ⟨Nat.le_of_ble_eq_true rfl, Nat.le_of_ble_eq_true rfl⟩) hP hD hS hA [0, 1, 2] rfl (by decide) (fun _ => by simp only [List.map_cons, List.map_nil]) (fun r_ u_ H locs hpost hP hD hS => ?_)
          have hP : va_P (dC, dI) vwCl [(rd, .inr (4, [.int (nI ((t_num (bitR f bz) (fun _ => false) 2 0 s2).2.1)), .ref br, .int (nI ((t_num (bitR f bz) (fun _ => false) 2 0 s2).2.2.1)), .int (nI ((t_num (bitR f bz) (fun _ => false) 2 0 s2).2.2.2.1)), .int (nI ((t_num (bitR f bz) (fun _ => false) 2 0 s2).2.2.2.2))])), (br, .inr (0, [.ref row, .int (nI bz)])), (row, .inl (cI, 6000, .inl (fun j => nI (f j))))] H := hP
          have hD : va_D A [(rd, .inr (4, [.int (nI ((t_num (bitR f bz) (fun _ => false) 2 0 s2).2.1)), .ref br, .int (nI ((t_num (bitR f bz) (fun _ => false) 2 0 s2).2.2.1)), .int (nI ((t_num (bitR f bz) (fun _ => false) 2 0 s2).2.2.2.1)), .int (nI ((t_num (bitR f bz) (fun _ => false) 2 0 s2).2.2.2.2))])), (br, .inr (0, [.ref row, .int (nI bz)])), (row, .inl (cI, 6000, .inl (fun j => nI (f j))))] := hD
          subst hpost
          obtain ⟨s3, es3⟩ : ∃ z : rS, z = (t_num (bitR f bz) (fun _ => false) 2 0 s2).2 := ⟨_, rfl⟩
          have hP : va_P (dC, dI) vwCl [(rd, .inr (4, [.int (nI s3.1), .ref br, .int (nI s3.2.1), .int (nI s3.2.2.1), .int (nI s3.2.2.2)])), (br, .inr (0, [.ref row, .int (nI bz)])), (row, .inl (cI, 6000, .inl (fun j => nI (f j))))] H := by rw [es3]; exact hP
          have hD : va_D A [(rd, .inr (4, [.int (nI s3.1), .ref br, .int (nI s3.2.1), .int (nI s3.2.2.1), .int (nI s3.2.2.2)])), (br, .inr (0, [.ref row, .int (nI bz)])), (row, .inl (cI, 6000, .inl (fun j => nI (f j))))] := by rw [es3]; exact hD
          have hok3 : okR bz s3 := by rw [es3]; exact okR_num hf5 hok2 _ _ _
          refine lv_istore_n (lv' := [(2, .int (nI ((t_num (bitR f bz) (fun _ => false) 2 0 s2).1))), (0, .ref rd), (1, .int x)]) hx hb dHD_tellPasses_50 rfl hl (by decide) rfl (fun ls hl => ?_)
          refine lv_iload_n hx hb dHD_tellPasses_51 rfl (lv_at hl 0 rfl) ?_
          refine lv_iconst (v := nI 3) hx hb dHD_tellPasses_52 (by decide +kernel) ?_
          refine qn_cge (tgt := 60) hx hb dHD_tellPasses_53 (by decide) (by have := t_num_lt (bitR f bz) (fun _ => false) 2 0 s2; omega) (by omega) (fun c_53 => ?_) (fun c_53 => ?_)
          · refine lv_aload_n hx hb dHD_tellPasses_60 rfl (lv_at hl 1 rfl) ?_
            refine lv_iload_n hx hb dHD_tellPasses_61 rfl (lv_at hl 2 rfl) ?_
            refine lv_bipush (v := nI 6) hx hb dHD_tellPasses_62 (by decide +kernel) ?_
            refine lv_isub hx hb dHD_tellPasses_64 ?_
            refine lv_bipush (v := nI 31) hx hb dHD_tellPasses_65 (by decide +kernel) ?_
            refine va_mmin hx hb (by rw [hml]; exact hl.1.symm) hown (hU hts u_873) (hU hts u_82) (hU hts u_42) (hU hts u_83) (Nat.le_of_ble_eq_true rfl) (Nat.le_of_ble_eq_true rfl) (Nat.le_of_ble_eq_true rfl) (Nat.le_of_ble_eq_true rfl) dHD_tellPasses_67 ?_
            refine lv_topi (fun y2 ey2 => ?_)
            refine lv_iconst (v := nI 5) hx hb dHD_tellPasses_70 (by decide +kernel) ?_
            have e6 : t_pass (bitR f bz) false false (fun _ => false) (fun _ => false) (fun _ => false) σ = t_p5 (bitR f bz) (fun _ => false) (fun _ => false) s3 := by rw [e7, t_p2, if_neg (by omega), ← es3]
            refine q_calli (va_runU (As := [.int y2, .int (nI 5)]) (rest := []) ⟨hx, hb, hml, hown, hts⟩ (k_Bits_number_R l dC dI cI cZ cL rd br row bz f s3 y2 5 hok3 (by omega) hbz hf5 H.size) (q_cwU (C := "PacketRows$Reader") (owner := "PacketRows$Bits") (x := ⟨"PacketRows$Bits", "number", "(II)I"⟩) 2 hts (gA u_874 u_876 u_877 u_875 u_46 u_879) rfl rfl rfl (hU hts u_875) (hU hts u_879) (by decide +kernel) ⟨Nat.le_of_ble_eq_true rfl, Nat.le_of_ble_eq_true rfl⟩) (q_preMV hK hZ hO hS hA hP hD [0, 1, 2] rfl (by decide) rfl rfl) rfl rfl hl.1 rfl (lv_room (Nat.le_of_ble_eq_true rfl)) dHD_tellPasses_71 ⟨Nat.le_of_ble_eq_true rfl, Nat.le_of_ble_eq_true rfl⟩) hP hD hS hA [0, 1, 2] rfl (by decide) (fun _ => by simp only [List.map_cons, List.map_nil]) (fun r_ u_ H locs hpost hP hD hS => ?_)
            have hP : va_P (dC, dI) vwCl [(rd, .inr (4, [.int (nI ((t_num (bitR f bz) (fun _ => false) 5 0 s3).2.1)), .ref br, .int (nI ((t_num (bitR f bz) (fun _ => false) 5 0 s3).2.2.1)), .int (nI ((t_num (bitR f bz) (fun _ => false) 5 0 s3).2.2.2.1)), .int (nI ((t_num (bitR f bz) (fun _ => false) 5 0 s3).2.2.2.2))])), (br, .inr (0, [.ref row, .int (nI bz)])), (row, .inl (cI, 6000, .inl (fun j => nI (f j))))] H := hP
            have hD : va_D A [(rd, .inr (4, [.int (nI ((t_num (bitR f bz) (fun _ => false) 5 0 s3).2.1)), .ref br, .int (nI ((t_num (bitR f bz) (fun _ => false) 5 0 s3).2.2.1)), .int (nI ((t_num (bitR f bz) (fun _ => false) 5 0 s3).2.2.2.1)), .int (nI ((t_num (bitR f bz) (fun _ => false) 5 0 s3).2.2.2.2))])), (br, .inr (0, [.ref row, .int (nI bz)])), (row, .inl (cI, 6000, .inl (fun j => nI (f j))))] := hD
            subst hpost
            obtain ⟨s4, es4⟩ : ∃ z : rS, z = (t_num (bitR f bz) (fun _ => false) 5 0 s3).2 := ⟨_, rfl⟩
            have hP : va_P (dC, dI) vwCl [(rd, .inr (4, [.int (nI s4.1), .ref br, .int (nI s4.2.1), .int (nI s4.2.2.1), .int (nI s4.2.2.2)])), (br, .inr (0, [.ref row, .int (nI bz)])), (row, .inl (cI, 6000, .inl (fun j => nI (f j))))] H := by rw [es4]; exact hP
            have hD : va_D A [(rd, .inr (4, [.int (nI s4.1), .ref br, .int (nI s4.2.1), .int (nI s4.2.2.1), .int (nI s4.2.2.2)])), (br, .inr (0, [.ref row, .int (nI bz)])), (row, .inl (cI, 6000, .inl (fun j => nI (f j))))] := by rw [es4]; exact hD
            have hok4 : okR bz s4 := by rw [es4]; exact okR_num hf5 hok3 _ _ _
            refine lv_istore_n (lv' := [(3, .int (nI ((t_num (bitR f bz) (fun _ => false) 5 0 s3).1))), (2, .int (nI ((t_num (bitR f bz) (fun _ => false) 2 0 s2).1))), (0, .ref rd), (1, .int x)]) hx hb dHD_tellPasses_74 rfl hl (by decide) rfl (fun ls hl => ?_)
            refine lv_iload_n hx hb dHD_tellPasses_75 rfl (lv_at hl 0 rfl) ?_
            refine lv_bipush (v := nI 31) hx hb dHD_tellPasses_76 (by decide +kernel) ?_
            refine qn_cge (tgt := 86) hx hb dHD_tellPasses_78 (by decide) (by have := t_num_lt (bitR f bz) (fun _ => false) 5 0 s3; omega) (by omega) (fun c_78 => ?_) (fun c_78 => ?_)
            · refine lv_bipush (v := nI 37) hx hb dHD_tellPasses_86 (by decide +kernel) ?_
              refine lv_aload_n hx hb dHD_tellPasses_88 rfl (lv_at hl 2 rfl) ?_
              refine lv_iload_n hx hb dHD_tellPasses_89 rfl (lv_at hl 3 rfl) ?_
              refine lv_bipush (v := nI 37) hx hb dHD_tellPasses_90 (by decide +kernel) ?_
              refine lv_isub hx hb dHD_tellPasses_92 ?_
              refine lv_topi (fun y3 ey3 => ?_)
              refine lv_bipush (v := nI 7) hx hb dHD_tellPasses_93 (by decide +kernel) ?_
              refine q_calli (va_runU (As := [.int y3, .int (nI 7)]) (rest := [.int (nI 37)]) ⟨hx, hb, hml, hown, hts⟩ (k_Bits_number_R l dC dI cI cZ cL rd br row bz f s4 y3 7 hok4 (by omega) hbz hf5 H.size) (q_cwU (C := "PacketRows$Reader") (owner := "PacketRows$Bits") (x := ⟨"PacketRows$Bits", "number", "(II)I"⟩) 2 hts (gA u_874 u_876 u_877 u_875 u_46 u_879) rfl rfl rfl (hU hts u_875) (hU hts u_879) (by decide +kernel) ⟨Nat.le_of_ble_eq_true rfl, Nat.le_of_ble_eq_true rfl⟩) (q_preMV hK hZ hO hS hA hP hD [0, 1, 2] rfl (by decide) rfl rfl) rfl rfl hl.1 rfl (lv_room (Nat.le_of_ble_eq_true rfl)) dHD_tellPasses_95 ⟨Nat.le_of_ble_eq_true rfl, Nat.le_of_ble_eq_true rfl⟩) hP hD hS hA [0, 1, 2] rfl (by decide) (fun _ => by simp only [List.map_cons, List.map_nil]) (fun r_ u_ H locs hpost hP hD hS => ?_)
              have hP : va_P (dC, dI) vwCl [(rd, .inr (4, [.int (nI ((t_num (bitR f bz) (fun _ => false) 7 0 s4).2.1)), .ref br, .int (nI ((t_num (bitR f bz) (fun _ => false) 7 0 s4).2.2.1)), .int (nI ((t_num (bitR f bz) (fun _ => false) 7 0 s4).2.2.2.1)), .int (nI ((t_num (bitR f bz) (fun _ => false) 7 0 s4).2.2.2.2))])), (br, .inr (0, [.ref row, .int (nI bz)])), (row, .inl (cI, 6000, .inl (fun j => nI (f j))))] H := hP
              have hD : va_D A [(rd, .inr (4, [.int (nI ((t_num (bitR f bz) (fun _ => false) 7 0 s4).2.1)), .ref br, .int (nI ((t_num (bitR f bz) (fun _ => false) 7 0 s4).2.2.1)), .int (nI ((t_num (bitR f bz) (fun _ => false) 7 0 s4).2.2.2.1)), .int (nI ((t_num (bitR f bz) (fun _ => false) 7 0 s4).2.2.2.2))])), (br, .inr (0, [.ref row, .int (nI bz)])), (row, .inl (cI, 6000, .inl (fun j => nI (f j))))] := hD
              subst hpost
              obtain ⟨s5, es5⟩ : ∃ z : rS, z = (t_num (bitR f bz) (fun _ => false) 7 0 s4).2 := ⟨_, rfl⟩
              have hP : va_P (dC, dI) vwCl [(rd, .inr (4, [.int (nI s5.1), .ref br, .int (nI s5.2.1), .int (nI s5.2.2.1), .int (nI s5.2.2.2)])), (br, .inr (0, [.ref row, .int (nI bz)])), (row, .inl (cI, 6000, .inl (fun j => nI (f j))))] H := by rw [es5]; exact hP
              have hD : va_D A [(rd, .inr (4, [.int (nI s5.1), .ref br, .int (nI s5.2.1), .int (nI s5.2.2.1), .int (nI s5.2.2.2)])), (br, .inr (0, [.ref row, .int (nI bz)])), (row, .inl (cI, 6000, .inl (fun j => nI (f j))))] := by rw [es5]; exact hD
              refine qn_iadd hx hb dHD_tellPasses_98 ?_
              have e9 : (37 + (t_num (bitR f bz) (fun _ => false) 7 0 s4).1, s5) = t_pass (bitR f bz) false false (fun _ => false) (fun _ => false) (fun _ => false) σ := by rw [e6, t_p5, if_neg (by omega), ← es4, ← es5]
              exact hret _ () _ _ _ _ dHD_tellPasses_99 (by rw [← e9]) (by rw [← e9]; exact hP) hS
            · refine lv_bipush (v := nI 6) hx hb dHD_tellPasses_81 (by decide +kernel) ?_
              refine lv_iload_n hx hb dHD_tellPasses_83 rfl (lv_at hl 0 rfl) ?_
              refine qn_iadd hx hb dHD_tellPasses_84 ?_
              have e9 : (6 + (t_num (bitR f bz) (fun _ => false) 5 0 s3).1, s4) = t_pass (bitR f bz) false false (fun _ => false) (fun _ => false) (fun _ => false) σ := by rw [e6, t_p5, if_pos c_78, ← es4]
              exact hret _ () _ _ _ _ dHD_tellPasses_85 (by rw [← e9]) (by rw [← e9]; exact hP) hS
          · refine lv_iconst (v := nI 3) hx hb dHD_tellPasses_56 (by decide +kernel) ?_
            refine lv_iload_n hx hb dHD_tellPasses_57 rfl (lv_at hl 0 rfl) ?_
            refine qn_iadd hx hb dHD_tellPasses_58 ?_
            have e9 : (3 + (t_num (bitR f bz) (fun _ => false) 2 0 s2).1, s3) = t_pass (bitR f bz) false false (fun _ => false) (fun _ => false) (fun _ => false) σ := by rw [e7, t_p2, if_pos c_53, ← es3]
            exact hret _ () _ _ _ _ dHD_tellPasses_59 (by rw [← e9]) (by rw [← e9]; exact hP) hS
        · refine lv_iconst (v := nI 2) hx hb dHD_tellPasses_36 (by decide +kernel) ?_
          have e9 : (2, s2) = t_pass (bitR f bz) false false (fun _ => false) (fun _ => false) (fun _ => false) σ := by unfold t_pass; rw [if_neg (show ¬ (bitR f bz σ false).1 = false from by rw [show (bitR f bz σ false).1 = true from c_14]; decide), ← es1, if_pos (show (bitR f bz s1 false).1 = false from c_33), ← es2]
          exact hret _ () _ _ _ _ dHD_tellPasses_37 (by rw [← e9]) (by rw [← e9]; exact hP) hS
      refine lv_icmp_le (tgt := 29) hx hb dHD_tellPasses_22 (by decide) (fun c_22 => ?_) (fun c_22 => ?_)
      · refine lv_iconst (v := nI 0) hx hb dHD_tellPasses_29 (by decide +kernel) ?_
        exact qn_eq (by rw [decide_eq_false (by first | exact c_22 | exact Int32.not_lt.mpr c_22 | exact Int32.not_le.mpr c_22 | omega)]; rfl) jn_30
      · refine lv_iconst (v := nI 1) hx hb dHD_tellPasses_25 (by decide +kernel) ?_
        refine lv_goto (tgt := 30) hx hb dHD_tellPasses_26 (by decide) ?_
        exact qn_eq (by rw [decide_eq_true (by first | exact c_22 | exact Int32.not_le.mp c_22 | exact Int32.not_lt.mp c_22 | omega)]; rfl) jn_30
    · refine lv_iconst (v := nI 1) hx hb dHD_tellPasses_17 (by decide +kernel) ?_
      have e9 : (1, s1) = t_pass (bitR f bz) false false (fun _ => false) (fun _ => false) (fun _ => false) σ := by unfold t_pass; rw [if_pos (show (bitR f bz σ false).1 = false from c_14), ← es1]
      exact hret _ () _ _ _ _ dHD_tellPasses_18 (by rw [← e9]) (by rw [← e9]; exact hP) hS
  refine lv_icmp_le (tgt := 10) hx hb dHD_tellPasses_3 (by decide) (fun c_3 => ?_) (fun c_3 => ?_)
  · refine lv_iconst (v := nI 0) hx hb dHD_tellPasses_10 (by decide +kernel) ?_
    exact qn_eq (by rw [decide_eq_false (by first | exact c_3 | exact Int32.not_lt.mpr c_3 | exact Int32.not_le.mpr c_3 | omega)]; rfl) jn_11
  · refine lv_iconst (v := nI 1) hx hb dHD_tellPasses_6 (by decide +kernel) ?_
    refine lv_goto (tgt := 11) hx hb dHD_tellPasses_7 (by decide) ?_
    exact qn_eq (by rw [decide_eq_true (by first | exact c_3 | exact Int32.not_le.mp c_3 | exact Int32.not_lt.mp c_3 | omega)]; rfl) jn_11

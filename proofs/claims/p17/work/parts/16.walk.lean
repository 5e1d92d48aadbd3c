set_option maxHeartbeats 4000000 in
set_option maxRecDepth 100000 in
theorem k_Bits_fail_W (l : Launch) (dC : Nat → ClassId) (dI : Nat → Nat → Nat) (cI cZ cL : ClassId) (wr br bg row bz : Nat) (ms : Bool) (σ : wS) (k : Nat) (h1 : σ.1 < 4) :
    q_CV l (dC, dI) vwCl (tyL cI cZ cL) yBT_fail wsBT_fail (rmD 0) [.ref wr, .int (nI k)] [(wr, .inr (7, [.int (nI σ.1), .ref br, .ref bg, .int (nI σ.2.2.1), .int (bI ms), .int (nI σ.2.2.2.1), .int (nI σ.2.2.2.2)])), (br, .inr (0, [.ref row, .int (nI bz)])), (row, .inl (cI, 6000, .inl (fun j => nI (σ.2.1 j))))] (fun (_ : Unit) => True) (fun (_ : Unit) => [(wr, .inr (7, [.int (nI ((t_fl σ k).1)), .ref br, .ref bg, .int (nI ((t_fl σ k).2.2.1)), .int (bI ms), .int (nI ((t_fl σ k).2.2.2.1)), .int (nI ((t_fl σ k).2.2.2.2))])), (br, .inr (0, [.ref row, .int (nI bz)])), (row, .inl (cI, 6000, .inl (fun j => nI (((t_fl σ k).2.1) j))))]) := by
  refine q_entV "PacketRows$Bits" (by decide) rfl rfl (Nat.le_of_ble_eq_true rfl) ?_
  intro p e s m below meth c ls Q A hx hb hml hts hown hP hD hK hZ hO hA hS hl hret
  have hl : lv_has ls 2 [(0, .ref wr), (1, .int (nI k))] := hl
  refine lv_aload_n hx hb dBT_fail_0 rfl (lv_at hl 0 rfl) ?_
  refine va_get (D := (dC, dI)) (ci := 7) (v := .int (nI σ.1)) (C := "PacketRows$Writer") (T := TWR) (N := 7) hx hb hts inWR hown hK hP 0 rfl rfl 0 (by decide) (hU hts u_257) (fun _ h9 => h9) rfl dBT_fail_1 ?_
  refine qn_ine (tgt := 12) hx hb dBT_fail_4 (by decide) (by omega) (fun c_4 => ?_) (fun c_4 => ?_)
  · exact hret () _ _ _ _ dBT_fail_12 trivial (by unfold t_fl m_fail; first | (rw [if_pos (show σ.1 = 0 from c_4)]; exact hP) | (rw [if_neg (show ¬ σ.1 = 0 from by omega)]; exact hP)) hS
  · refine lv_aload_n hx hb dBT_fail_7 rfl (lv_at hl 0 rfl) ?_
    refine lv_iload_n hx hb dBT_fail_8 rfl (lv_at hl 1 rfl) ?_
    refine va_put (D := (dC, dI)) (ci := 7) (v := .int (nI k)) (ty := .int) (C := "PacketRows$Writer") (T := TWR) (N := 7) hx hb hts inWR tyWR tyWR_ok nmWR hown hK hP hD hS 0 rfl rfl 0 (by decide) (hU hts u_257) (fun _ h9 => h9) rfl (by decide +kernel) rfl rfl (Nat.le_of_ble_eq_true rfl) dBT_fail_9 (fun H locs hP hD hS => ?_)
    have hP : va_P (dC, dI) vwCl [(wr, .inr (7, [.int (nI k), .ref br, .ref bg, .int (nI σ.2.2.1), .int (bI ms), .int (nI σ.2.2.2.1), .int (nI σ.2.2.2.2)])), (br, .inr (0, [.ref row, .int (nI bz)])), (row, .inl (cI, 6000, .inl (fun j => nI (σ.2.1 j))))] H := hP
    have hD : va_D A [(wr, .inr (7, [.int (nI k), .ref br, .ref bg, .int (nI σ.2.2.1), .int (bI ms), .int (nI σ.2.2.2.1), .int (nI σ.2.2.2.2)])), (br, .inr (0, [.ref row, .int (nI bz)])), (row, .inl (cI, 6000, .inl (fun j => nI (σ.2.1 j))))] := hD
    exact hret () _ _ _ _ dBT_fail_12 trivial (by unfold t_fl m_fail; first | (rw [if_pos (show σ.1 = 0 from c_4)]; exact hP) | (rw [if_neg (show ¬ σ.1 = 0 from by omega)]; exact hP)) hS
set_option maxHeartbeats 4000000 in
set_option maxRecDepth 100000 in
theorem k_Bits_number_W (l : Launch) (dC : Nat → ClassId) (dI : Nat → Nat → Nat) (cI cZ cL : ClassId) (wr br bg row bz : Nat) (ms : Bool) (σ : wS) (d k : Nat) (hok : okW (k) σ) (hk : k ≤ 24) (hd : d < 2 ^ 31) :
    q_CI l (dC, dI) vwCl (tyL cI cZ cL) yBT_number wsBT_number (rmD 1) [.ref wr, .int (nI d), .int (nI k)] [(wr, .inr (7, [.int (nI σ.1), .ref br, .ref bg, .int (nI σ.2.2.1), .int (bI ms), .int (nI σ.2.2.2.1), .int (nI σ.2.2.2.2)])), (br, .inr (0, [.ref row, .int (nI bz)])), (row, .inl (cI, 6000, .inl (fun j => nI (σ.2.1 j))))] (fun (z : Int32) (_ : Unit) => z = nI ((t_num (bitW ms) (m_due d) k 0 σ).1)) (fun (_ : Unit) => [(wr, .inr (7, [.int (nI ((t_num (bitW ms) (m_due d) k 0 σ).2.1)), .ref br, .ref bg, .int (nI ((t_num (bitW ms) (m_due d) k 0 σ).2.2.2.1)), .int (bI ms), .int (nI ((t_num (bitW ms) (m_due d) k 0 σ).2.2.2.2.1)), .int (nI ((t_num (bitW ms) (m_due d) k 0 σ).2.2.2.2.2))])), (br, .inr (0, [.ref row, .int (nI bz)])), (row, .inl (cI, 6000, .inl (fun j => nI (((t_num (bitW ms) (m_due d) k 0 σ).2.2.1) j))))]) := by
  refine q_entI "PacketRows$Bits" (by decide) rfl (fun _ _ _ => rfl) rfl (Nat.le_of_ble_eq_true rfl) ?_
  intro p e s m below meth c ls Q A hx hb hml hts hown hP hD hK hZ hO hA hS hl hret
  have hl : lv_has ls 5 [(0, .ref wr), (1, .int (nI d)), (2, .int (nI k))] := hl
  refine lv_iconst (v := nI 0) hx hb dBT_number_0 (by decide +kernel) ?_
  refine lv_istore_n (lv' := [(3, .int (nI 0)), (0, .ref wr), (1, .int (nI d)), (2, .int (nI k))]) hx hb dBT_number_1 rfl hl (by decide) rfl (fun ls hl => ?_)
  refine lv_iload_n hx hb dBT_number_2 rfl (lv_at hl 3 rfl) ?_
  refine lv_iconst (v := nI 1) hx hb dBT_number_3 (by decide +kernel) ?_
  refine lv_isub hx hb dBT_number_4 ?_
  refine qn_eq (y := eI k) rfl ?_
  refine lv_istore (lv' := [(4, .int (eI k)), (3, .int (nI 0)), (0, .ref wr), (1, .int (nI d)), (2, .int (nI k))]) hx hb dBT_number_5 hl (by decide) rfl (fun ls hl => ?_)
  have lp_7 : ∀ (fu : Nat) (i v : Nat) (sg : wS) (H : Heap) (locs : List Loc) (ls : Array Slot), i < fu → (i ≤ k) → (v < 2 ^ (k - i)) → (okW (i) sg) → (t_num (bitW ms) (m_due d) i v sg = t_num (bitW ms) (m_due d) k 0 σ) → va_P (dC, dI) vwCl [(wr, .inr (7, [.int (nI sg.1), .ref br, .ref bg, .int (nI sg.2.2.1), .int (bI ms), .int (nI sg.2.2.2.1), .int (nI sg.2.2.2.2)])), (br, .inr (0, [.ref row, .int (nI bz)])), (row, .inl (cI, 6000, .inl (fun j => nI (sg.2.1 j))))] H → va_D A [(wr, .inr (7, [.int (nI sg.1), .ref br, .ref bg, .int (nI sg.2.2.1), .int (bI ms), .int (nI sg.2.2.2.1), .int (nI sg.2.2.2.2)])), (br, .inr (0, [.ref row, .int (nI bz)])), (row, .inl (cI, 6000, .inl (fun j => nI (sg.2.1 j))))] → va_S A s.heap H locs → lv_has ls 5 [(4, .int (eI i)), (0, .ref wr), (1, .int (nI d)), (2, .int (nI k)), (3, .int (nI v))] → W p l e (headSpec wsBT_number (rmD 1)).room s m [.ref wr, .int (nI d), .int (nI k)].toArray below meth c H locs 0 0 Q (F0 m 7 ls []) := by
    intro fu
    induction fu with
    | zero => intro i v sg H locs ls hmeas; exact absurd hmeas (Nat.not_lt_zero _)
    | succ fu ih_7 =>
      intro i v sg H locs ls hmeas hi hv hok hf hP hD hS hl
      refine lv_iload hx hb dBT_number_7 (lv_at hl 0 rfl) ?_
      refine qd_ilt (tgt := 50) hx hb dBT_number_9 (by decide) (fun c_9 => ?_) (fun k_ c_9 => ?_)
      · subst c_9
        refine lv_iload_n hx hb dBT_number_50 rfl (lv_at hl 4 rfl) ?_
        have e9 : (v, sg) = t_num (bitW ms) (m_due d) k 0 σ := hf
        exact hret _ () _ _ _ _ dBT_number_51 (by rw [← e9]) (by rw [← e9]; exact hP) hS
      · subst c_9
        have hl : lv_has ls 5 [(4, .int (nI k_)), (0, .ref wr), (1, .int (nI d)), (2, .int (nI k)), (3, .int (nI v))] := by rw [eI_succ] at hl; exact hl
        refine lv_iload_n hx hb dBT_number_12 rfl (lv_at hl 4 rfl) ?_
        refine lv_iconst (v := nI 1) hx hb dBT_number_13 (by decide +kernel) ?_
        refine qn_ishl hx hb dBT_number_14 (by omega) (m_sh hv (by omega)) ?_
        refine lv_aload_n hx hb dBT_number_15 rfl (lv_at hl 1 rfl) ?_
        refine lv_iload_n hx hb dBT_number_16 rfl (lv_at hl 2 rfl) ?_
        refine lv_iload hx hb dBT_number_17 (lv_at hl 0 rfl) ?_
        refine qn_ishr hx hb dBT_number_19 hd (by omega) ?_
        refine lv_iconst (v := nI 1) hx hb dBT_number_20 (by decide +kernel) ?_
        refine qn_iand hx hb dBT_number_21 ?_
        refine lv_iconst (v := nI 1) hx hb dBT_number_22 (by decide +kernel) ?_
        have jn_31 : W p l e (headSpec wsBT_number (rmD 1)).room s m [.ref wr, .int (nI d), .int (nI k)].toArray below meth c H locs 0 0 Q (F0 m 31 ls [.int (bI (decide ((d / 2 ^ k_) &&& 1 = 1))), .ref wr, .int (nI (v * 2 ^ 1))]) := by
          refine q_calli (va_runU (As := [.int (bI (decide ((d / 2 ^ k_) &&& 1 = 1)))]) (rest := [.int (nI (v * 2 ^ 1))]) ⟨hx, hb, hml, hown, hts⟩ (k_Writer_bit l dC dI cI cZ cL wr br bg row bz ms sg (decide ((d / 2 ^ k_) &&& 1 = 1)) (okW_le hok (by omega)) H.size) (va_cwA (C := "PacketRows$Writer") (owner := "PacketRows$Bits") (x := ⟨"PacketRows$Bits", "bit", "(Z)Z"⟩) 1 hts (gA u_880 u_842 u_846 u_847 u_47 u_848) rfl rfl rfl (hZ.1 _ z_9) (by decide +kernel) ⟨Nat.le_of_ble_eq_true rfl, Nat.le_of_ble_eq_true rfl⟩) (q_preMV hK hZ hO hS hA hP hD [0, 1, 2] rfl (by decide) rfl rfl) rfl rfl hl.1 rfl (lv_room (Nat.le_of_ble_eq_true rfl)) dBT_number_31 ⟨Nat.le_of_ble_eq_true rfl, Nat.le_of_ble_eq_true rfl⟩) hP hD hS hA [0, 1, 2] rfl (by decide) (fun _ => by simp only [List.map_cons, List.map_nil]) (fun r_ u_ H locs hpost hP hD hS => ?_)
          have hP : va_P (dC, dI) vwCl [(wr, .inr (7, [.int (nI ((bitW ms sg (decide ((d / 2 ^ k_) &&& 1 = 1))).2.1)), .ref br, .ref bg, .int (nI ((bitW ms sg (decide ((d / 2 ^ k_) &&& 1 = 1))).2.2.2.1)), .int (bI ms), .int (nI ((bitW ms sg (decide ((d / 2 ^ k_) &&& 1 = 1))).2.2.2.2.1)), .int (nI ((bitW ms sg (decide ((d / 2 ^ k_) &&& 1 = 1))).2.2.2.2.2))])), (br, .inr (0, [.ref row, .int (nI bz)])), (row, .inl (cI, 6000, .inl (fun j => nI (((bitW ms sg (decide ((d / 2 ^ k_) &&& 1 = 1))).2.2.1) j))))] H := hP
          have hD : va_D A [(wr, .inr (7, [.int (nI ((bitW ms sg (decide ((d / 2 ^ k_) &&& 1 = 1))).2.1)), .ref br, .ref bg, .int (nI ((bitW ms sg (decide ((d / 2 ^ k_) &&& 1 = 1))).2.2.2.1)), .int (bI ms), .int (nI ((bitW ms sg (decide ((d / 2 ^ k_) &&& 1 = 1))).2.2.2.2.1)), .int (nI ((bitW ms sg (decide ((d / 2 ^ k_) &&& 1 = 1))).2.2.2.2.2))])), (br, .inr (0, [.ref row, .int (nI bz)])), (row, .inl (cI, 6000, .inl (fun j => nI (((bitW ms sg (decide ((d / 2 ^ k_) &&& 1 = 1))).2.2.1) j))))] := hD
          subst hpost
          have jn_42 : W p l e (headSpec wsBT_number (rmD 1)).room s m [.ref wr, .int (nI d), .int (nI k)].toArray below meth c H locs 0 0 Q (F0 m 42 ls [.int (nI (b2n (decide ((d / 2 ^ k_) &&& 1 = 1)))), .int (nI (v * 2 ^ 1))]) := by
            refine qn_ior hx hb dBT_number_42 ?_
            refine lv_istore_n (lv' := [(3, .int (nI ((v * 2 ^ 1) ||| (b2n (decide ((d / 2 ^ k_) &&& 1 = 1)))))), (4, .int (nI k_)), (0, .ref wr), (1, .int (nI d)), (2, .int (nI k))]) hx hb dBT_number_43 rfl hl (by decide) rfl (fun ls hl => ?_)
            refine lv_iinc (v := eI k_) (lv' := [(4, .int (eI k_)), (3, .int (nI ((v * 2 ^ 1) ||| (b2n (decide ((d / 2 ^ k_) &&& 1 = 1)))))), (0, .ref wr), (1, .int (nI d)), (2, .int (nI k))]) hx hb dBT_number_44 hl (k := 1) rfl (eI_inc _) (by decide) rfl (fun ls hl => ?_)
            refine lv_goto (tgt := 7) hx hb dBT_number_47 (by decide) ?_
            exact ih_7 k_ (v * 2 ^ 1 ||| b2n (decide (d / 2 ^ k_ &&& 1 = 1))) ((bitW ms sg (decide (d / 2 ^ k_ &&& 1 = 1))).2) _ _ _ (by omega) (by omega) (m_numlt hv (by omega)) (okW_bit hok _) hf hP hD hS (lv_sub hl [0, 2, 3, 4, 1] rfl)
          refine qb_ieq (tgt := 41) hx hb dBT_number_34 (by decide) (fun c_34 => ?_) (fun c_34 => ?_)
          · refine lv_iconst (v := nI 0) hx hb dBT_number_41 (by decide +kernel) ?_
            exact qn_eq (by rw [c_34]; rfl) jn_42
          · refine lv_iconst (v := nI 1) hx hb dBT_number_37 (by decide +kernel) ?_
            refine lv_goto (tgt := 42) hx hb dBT_number_38 (by decide) ?_
            exact qn_eq (by rw [c_34]; rfl) jn_42
        refine qn_cne (tgt := 30) hx hb dBT_number_23 (by decide) (Nat.lt_of_le_of_lt Nat.and_le_right (by omega)) (by omega) (fun c_23 => ?_) (fun c_23 => ?_)
        · refine lv_iconst (v := nI 0) hx hb dBT_number_30 (by decide +kernel) ?_
          exact qn_eq (by rw [decide_eq_false (by first | exact c_23 | exact Int32.not_lt.mpr c_23 | exact Int32.not_le.mpr c_23 | omega)]; rfl) jn_31
        · refine lv_iconst (v := nI 1) hx hb dBT_number_26 (by decide +kernel) ?_
          refine lv_goto (tgt := 31) hx hb dBT_number_27 (by decide) ?_
          exact qn_eq (by rw [decide_eq_true (by first | exact c_23 | exact Int32.not_le.mp c_23 | exact Int32.not_lt.mp c_23 | omega)]; rfl) jn_31
  exact lp_7 _ k 0 σ _ _ _ (Nat.lt_succ_self _) (Nat.le_refl _) (Nat.pow_pos (by omega)) hok rfl hP hD hS (lv_sub hl [0, 2, 3, 4, 1] rfl)
set_option maxHeartbeats 4000000 in
set_option maxRecDepth 100000 in
theorem k_Bits_fail_R (l : Launch) (dC : Nat → ClassId) (dI : Nat → Nat → Nat) (cI cZ cL : ClassId) (rd br row bz : Nat) (f : Nat → Nat) (σ : rS) (k : Nat) (h1 : σ.1 < 4) :
    q_CV l (dC, dI) vwCl (tyL cI cZ cL) yBT_fail wsBT_fail (rmD 0) [.ref rd, .int (nI k)] [(rd, .inr (4, [.int (nI σ.1), .ref br, .int (nI σ.2.1), .int (nI σ.2.2.1), .int (nI σ.2.2.2)])), (br, .inr (0, [.ref row, .int (nI bz)])), (row, .inl (cI, 6000, .inl (fun j => nI (f j))))] (fun (_ : Unit) => True) (fun (_ : Unit) => [(rd, .inr (4, [.int (nI ((t_fl σ k).1)), .ref br, .int (nI ((t_fl σ k).2.1)), .int (nI ((t_fl σ k).2.2.1)), .int (nI ((t_fl σ k).2.2.2))])), (br, .inr (0, [.ref row, .int (nI bz)])), (row, .inl (cI, 6000, .inl (fun j => nI (f j))))]) := by
  refine q_entV "PacketRows$Bits" (by decide) rfl rfl (Nat.le_of_ble_eq_true rfl) ?_
  intro p e s m below meth c ls Q A hx hb hml hts hown hP hD hK hZ hO hA hS hl hret
  have hl : lv_has ls 2 [(0, .ref rd), (1, .int (nI k))] := hl
  refine lv_aload_n hx hb dBT_fail_0 rfl (lv_at hl 0 rfl) ?_
  refine va_get (D := (dC, dI)) (ci := 4) (v := .int (nI σ.1)) (C := "PacketRows$Reader") (T := TRD) (N := 5) hx hb hts inRD hown hK hP 0 rfl rfl 0 (by decide) (hU hts u_257) (fun _ h9 => h9) rfl dBT_fail_1 ?_
  refine qn_ine (tgt := 12) hx hb dBT_fail_4 (by decide) (by omega) (fun c_4 => ?_) (fun c_4 => ?_)
  · exact hret () _ _ _ _ dBT_fail_12 trivial (by unfold t_fl m_fail; first | (rw [if_pos (show σ.1 = 0 from c_4)]; exact hP) | (rw [if_neg (show ¬ σ.1 = 0 from by omega)]; exact hP)) hS
  · refine lv_aload_n hx hb dBT_fail_7 rfl (lv_at hl 0 rfl) ?_
    refine lv_iload_n hx hb dBT_fail_8 rfl (lv_at hl 1 rfl) ?_
    refine va_put (D := (dC, dI)) (ci := 4) (v := .int (nI k)) (ty := .int) (C := "PacketRows$Reader") (T := TRD) (N := 5) hx hb hts inRD tyRD tyRD_ok nmRD hown hK hP hD hS 0 rfl rfl 0 (by decide) (hU hts u_257) (fun _ h9 => h9) rfl (by decide +kernel) rfl rfl (Nat.le_of_ble_eq_true rfl) dBT_fail_9 (fun H locs hP hD hS => ?_)
    have hP : va_P (dC, dI) vwCl [(rd, .inr (4, [.int (nI k), .ref br, .int (nI σ.2.1), .int (nI σ.2.2.1), .int (nI σ.2.2.2)])), (br, .inr (0, [.ref row, .int (nI bz)])), (row, .inl (cI, 6000, .inl (fun j => nI (f j))))] H := hP
    have hD : va_D A [(rd, .inr (4, [.int (nI k), .ref br, .int (nI σ.2.1), .int (nI σ.2.2.1), .int (nI σ.2.2.2)])), (br, .inr (0, [.ref row, .int (nI bz)])), (row, .inl (cI, 6000, .inl (fun j => nI (f j))))] := hD
    exact hret () _ _ _ _ dBT_fail_12 trivial (by unfold t_fl m_fail; first | (rw [if_pos (show σ.1 = 0 from c_4)]; exact hP) | (rw [if_neg (show ¬ σ.1 = 0 from by omega)]; exact hP)) hS
set_option maxHeartbeats 4000000 in
set_option maxRecDepth 100000 in
theorem k_Bits_number_R (l : Launch) (dC : Nat → ClassId) (dI : Nat → Nat → Nat) (cI cZ cL : ClassId) (rd br row bz : Nat) (f : Nat → Nat) (σ : rS) (x : Int32) (k : Nat) (hok : okR bz σ) (hk : k ≤ 24) (hbz : bz ≤ 6000) (hf5 : ∀ j, f j < 256) :
    q_CI l (dC, dI) vwCl (tyL cI cZ cL) yBT_number wsBT_number (rmD 1) [.ref rd, .int x, .int (nI k)] [(rd, .inr (4, [.int (nI σ.1), .ref br, .int (nI σ.2.1), .int (nI σ.2.2.1), .int (nI σ.2.2.2)])), (br, .inr (0, [.ref row, .int (nI bz)])), (row, .inl (cI, 6000, .inl (fun j => nI (f j))))] (fun (z : Int32) (_ : Unit) => z = nI ((t_num (bitR f bz) (fun _ => false) k 0 σ).1)) (fun (_ : Unit) => [(rd, .inr (4, [.int (nI ((t_num (bitR f bz) (fun _ => false) k 0 σ).2.1)), .ref br, .int (nI ((t_num (bitR f bz) (fun _ => false) k 0 σ).2.2.1)), .int (nI ((t_num (bitR f bz) (fun _ => false) k 0 σ).2.2.2.1)), .int (nI ((t_num (bitR f bz) (fun _ => false) k 0 σ).2.2.2.2))])), (br, .inr (0, [.ref row, .int (nI bz)])), (row, .inl (cI, 6000, .inl (fun j => nI (f j))))]) := by
  refine q_entI "PacketRows$Bits" (by decide) rfl (fun _ _ _ => rfl) rfl (Nat.le_of_ble_eq_true rfl) ?_
  intro p e s m below meth c ls Q A hx hb hml hts hown hP hD hK hZ hO hA hS hl hret
  have hl : lv_has ls 5 [(0, .ref rd), (1, .int x), (2, .int (nI k))] := hl
  refine lv_iconst (v := nI 0) hx hb dBT_number_0 (by decide +kernel) ?_
  refine lv_istore_n (lv' := [(3, .int (nI 0)), (0, .ref rd), (1, .int x), (2, .int (nI k))]) hx hb dBT_number_1 rfl hl (by decide) rfl (fun ls hl => ?_)
  refine lv_iload_n hx hb dBT_number_2 rfl (lv_at hl 3 rfl) ?_
  refine lv_iconst (v := nI 1) hx hb dBT_number_3 (by decide +kernel) ?_
  refine lv_isub hx hb dBT_number_4 ?_
  refine qn_eq (y := eI k) rfl ?_
  refine lv_istore (lv' := [(4, .int (eI k)), (3, .int (nI 0)), (0, .ref rd), (1, .int x), (2, .int (nI k))]) hx hb dBT_number_5 hl (by decide) rfl (fun ls hl => ?_)
  have lp_7 : ∀ (fu : Nat) (i v : Nat) (sg : rS) (H : Heap) (locs : List Loc) (ls : Array Slot), i < fu → (i ≤ k) → (v < 2 ^ (k - i)) → (okR bz sg) → (t_num (bitR f bz) (fun _ => false) i v sg = t_num (bitR f bz) (fun _ => false) k 0 σ) → va_P (dC, dI) vwCl [(rd, .inr (4, [.int (nI sg.1), .ref br, .int (nI sg.2.1), .int (nI sg.2.2.1), .int (nI sg.2.2.2)])), (br, .inr (0, [.ref row, .int (nI bz)])), (row, .inl (cI, 6000, .inl (fun j => nI (f j))))] H → va_D A [(rd, .inr (4, [.int (nI sg.1), .ref br, .int (nI sg.2.1), .int (nI sg.2.2.1), .int (nI sg.2.2.2)])), (br, .inr (0, [.ref row, .int (nI bz)])), (row, .inl (cI, 6000, .inl (fun j => nI (f j))))] → va_S A s.heap H locs → lv_has ls 5 [(4, .int (eI i)), (0, .ref rd), (1, .int x), (2, .int (nI k)), (3, .int (nI v))] → W p l e (headSpec wsBT_number (rmD 1)).room s m [.ref rd, .int x, .int (nI k)].toArray below meth c H locs 0 0 Q (F0 m 7 ls []) := by
    intro fu
    induction fu with
    | zero => intro i v sg H locs ls hmeas; exact absurd hmeas (Nat.not_lt_zero _)
    | succ fu ih_7 =>
      intro i v sg H locs ls hmeas hi hv hok hf hP hD hS hl
      refine lv_iload hx hb dBT_number_7 (lv_at hl 0 rfl) ?_
      refine qd_ilt (tgt := 50) hx hb dBT_number_9 (by decide) (fun c_9 => ?_) (fun k_ c_9 => ?_)
      · subst c_9
        refine lv_iload_n hx hb dBT_number_50 rfl (lv_at hl 4 rfl) ?_
        have e9 : (v, sg) = t_num (bitR f bz) (fun _ => false) k 0 σ := hf
        exact hret _ () _ _ _ _ dBT_number_51 (by rw [← e9]) (by rw [← e9]; exact hP) hS
      · subst c_9
        have hl : lv_has ls 5 [(4, .int (nI k_)), (0, .ref rd), (1, .int x), (2, .int (nI k)), (3, .int (nI v))] := by rw [eI_succ] at hl; exact hl
        refine lv_iload_n hx hb dBT_number_12 rfl (lv_at hl 4 rfl) ?_
        refine lv_iconst (v := nI 1) hx hb dBT_number_13 (by decide +kernel) ?_
        refine qn_ishl hx hb dBT_number_14 (by omega) (m_sh hv (by omega)) ?_
        refine lv_aload_n hx hb dBT_number_15 rfl (lv_at hl 1 rfl) ?_
        refine lv_iload_n hx hb dBT_number_16 rfl (lv_at hl 2 rfl) ?_
        refine lv_iload hx hb dBT_number_17 (lv_at hl 0 rfl) ?_
        refine lv_ishr hx hb dBT_number_19 ?_
        refine lv_iconst (v := nI 1) hx hb dBT_number_20 (by decide +kernel) ?_
        refine lv_iand hx hb dBT_number_21 ?_
        refine lv_iconst (v := nI 1) hx hb dBT_number_22 (by decide +kernel) ?_
        have jn_31 : W p l e (headSpec wsBT_number (rmD 1)).room s m [.ref rd, .int x, .int (nI k)].toArray below meth c H locs 0 0 Q (F0 m 31 ls [.int (bI (decide ((x >>> ((nI k_) &&& 31)) &&& (nI 1) = nI 1))), .ref rd, .int (nI (v * 2 ^ 1))]) := by
          refine q_calli (va_runU (As := [.int (bI (decide ((x >>> ((nI k_) &&& 31)) &&& (nI 1) = nI 1)))]) (rest := [.int (nI (v * 2 ^ 1))]) ⟨hx, hb, hml, hown, hts⟩ (k_Reader_bit l dC dI cI cZ cL rd br row bz f sg (decide ((x >>> ((nI k_) &&& 31)) &&& (nI 1) = nI 1)) hok hbz hf5 H.size) (va_cwA (C := "PacketRows$Reader") (owner := "PacketRows$Bits") (x := ⟨"PacketRows$Bits", "bit", "(Z)Z"⟩) 1 hts (gA u_880 u_842 u_843 u_844 u_48 u_845) rfl rfl rfl (hZ.1 _ z_9) (by decide +kernel) ⟨Nat.le_of_ble_eq_true rfl, Nat.le_of_ble_eq_true rfl⟩) (q_preMV hK hZ hO hS hA hP hD [0, 1, 2] rfl (by decide) rfl rfl) rfl rfl hl.1 rfl (lv_room (Nat.le_of_ble_eq_true rfl)) dBT_number_31 ⟨Nat.le_of_ble_eq_true rfl, Nat.le_of_ble_eq_true rfl⟩) hP hD hS hA [0, 1, 2] rfl (by decide) (fun _ => by simp only [List.map_cons, List.map_nil]) (fun r_ u_ H locs hpost hP hD hS => ?_)
          have hP : va_P (dC, dI) vwCl [(rd, .inr (4, [.int (nI ((bitR f bz sg false).2.1)), .ref br, .int (nI ((bitR f bz sg false).2.2.1)), .int (nI ((bitR f bz sg false).2.2.2.1)), .int (nI ((bitR f bz sg false).2.2.2.2))])), (br, .inr (0, [.ref row, .int (nI bz)])), (row, .inl (cI, 6000, .inl (fun j => nI (f j))))] H := hP
          have hD : va_D A [(rd, .inr (4, [.int (nI ((bitR f bz sg false).2.1)), .ref br, .int (nI ((bitR f bz sg false).2.2.1)), .int (nI ((bitR f bz sg false).2.2.2.1)), .int (nI ((bitR f bz sg false).2.2.2.2))])), (br, .inr (0, [.ref row, .int (nI bz)])), (row, .inl (cI, 6000, .inl (fun j => nI (f j))))] := hD
          subst hpost
          have jn_42 : W p l e (headSpec wsBT_number (rmD 1)).room s m [.ref rd, .int x, .int (nI k)].toArray below meth c H locs 0 0 Q (F0 m 42 ls [.int (nI (b2n ((bitR f bz sg false).1))), .int (nI (v * 2 ^ 1))]) := by
            refine qn_ior hx hb dBT_number_42 ?_
            refine lv_istore_n (lv' := [(3, .int (nI ((v * 2 ^ 1) ||| (b2n ((bitR f bz sg false).1))))), (4, .int (nI k_)), (0, .ref rd), (1, .int x), (2, .int (nI k))]) hx hb dBT_number_43 rfl hl (by decide) rfl (fun ls hl => ?_)
            refine lv_iinc (v := eI k_) (lv' := [(4, .int (eI k_)), (3, .int (nI ((v * 2 ^ 1) ||| (b2n ((bitR f bz sg false).1))))), (0, .ref rd), (1, .int x), (2, .int (nI k))]) hx hb dBT_number_44 hl (k := 1) rfl (eI_inc _) (by decide) rfl (fun ls hl => ?_)
            refine lv_goto (tgt := 7) hx hb dBT_number_47 (by decide) ?_
            exact ih_7 k_ (v * 2 ^ 1 ||| b2n ((bitR f bz sg false).1)) ((bitR f bz sg false).2) _ _ _ (by omega) (by omega) (m_numlt hv (by omega)) (okR_bit hf5 hok _) hf hP hD hS (lv_sub hl [0, 2, 3, 4, 1] rfl)
          refine qb_ieq (tgt := 41) hx hb dBT_number_34 (by decide) (fun c_34 => ?_) (fun c_34 => ?_)
          · refine lv_iconst (v := nI 0) hx hb dBT_number_41 (by decide +kernel) ?_
            exact qn_eq (by rw [c_34]; rfl) jn_42
          · refine lv_iconst (v := nI 1) hx hb dBT_number_37 (by decide +kernel) ?_
            refine lv_goto (tgt := 42) hx hb dBT_number_38 (by decide) ?_
            exact qn_eq (by rw [c_34]; rfl) jn_42
        refine lv_icmp_ne (tgt := 30) hx hb dBT_number_23 (by decide) (fun c_23 => ?_) (fun c_23 => ?_)
        · refine lv_iconst (v := nI 0) hx hb dBT_number_30 (by decide +kernel) ?_
          exact qn_eq (by rw [decide_eq_false (by first | exact c_23 | exact Int32.not_lt.mpr c_23 | exact Int32.not_le.mpr c_23 | omega)]; rfl) jn_31
        · refine lv_iconst (v := nI 1) hx hb dBT_number_26 (by decide +kernel) ?_
          refine lv_goto (tgt := 31) hx hb dBT_number_27 (by decide) ?_
          exact qn_eq (by rw [decide_eq_true (by first | exact c_23 | exact Int32.not_le.mp c_23 | exact Int32.not_lt.mp c_23 | omega)]; rfl) jn_31
  exact lp_7 _ k 0 σ _ _ _ (Nat.lt_succ_self _) (Nat.le_refl _) (Nat.pow_pos (by omega)) hok rfl hP hD hS (lv_sub hl [0, 2, 3, 4, 1] rfl)
set_option maxHeartbeats 4000000 in
set_option maxRecDepth 100000 in
theorem k_Writer_beginHead (l : Launch) (dC : Nat → ClassId) (dI : Nat → Nat → Nat) (cI cZ cL : ClassId) (wr br bg row bz : Nat) (ms : Bool) (σ : wS) (np k : Nat) (fb : Nat → Nat) (h1 : k < np) (h2 : np < 2 ^ 30) :
    q_CV l (dC, dI) vwCl (tyL cI cZ cL) yWR_beginHead wsWR_beginHead (rmD 0) [.ref wr, .int (nI k)] [(wr, .inr (7, [.int (nI σ.1), .ref br, .ref bg, .int (nI σ.2.2.1), .int (bI ms), .int (nI σ.2.2.2.1), .int (nI σ.2.2.2.2)])), (br, .inr (0, [.ref row, .int (nI bz)])), (row, .inl (cI, 6000, .inl (fun j => nI (σ.2.1 j)))), (bg, .inl (cI, np, .inl (fun j => nI (fb j))))] (fun (_ : Unit) => True) (fun (_ : Unit) => [(wr, .inr (7, [.int (nI σ.1), .ref br, .ref bg, .int (nI σ.2.2.1), .int (bI ms), .int (nI σ.2.2.2.1), .int (nI σ.2.2.2.2)])), (br, .inr (0, [.ref row, .int (nI bz)])), (row, .inl (cI, 6000, .inl (fun j => nI (σ.2.1 j)))), (bg, .inl (cI, np, .inl (fun j => nI ((m_beg ms fb k σ.2.2.1) j))))]) := by
  refine q_entV "PacketRows$Writer" (by decide) rfl rfl (Nat.le_of_ble_eq_true rfl) ?_
  intro p e s m below meth c ls Q A hx hb hml hts hown hP hD hK hZ hO hA hS hl hret
  have hl : lv_has ls 2 [(0, .ref wr), (1, .int (nI k))] := hl
  refine lv_aload_n hx hb dWR_beginHead_0 rfl (lv_at hl 0 rfl) ?_
  refine va_get (D := (dC, dI)) (ci := 7) (v := .int (bI ms)) (C := "PacketRows$Writer") (T := TWR) (N := 7) hx hb hts inWR hown hK hP 0 rfl rfl 4 (by decide) (hU hts u_251) (fun _ h9 => h9) rfl dWR_beginHead_1 ?_
  refine qb_ine (tgt := 17) hx hb dWR_beginHead_4 (by decide) (fun c_4 => ?_) (fun c_4 => ?_)
  · exact hret () _ _ _ _ dWR_beginHead_17 trivial (by unfold m_beg; first | (rw [if_pos (show ms = false from c_4)]; exact hP) | (rw [if_neg (show ¬ ms = false from by rw [c_4]; decide)]; exact hP)) hS
  · refine lv_aload_n hx hb dWR_beginHead_7 rfl (lv_at hl 0 rfl) ?_
    refine va_get (D := (dC, dI)) (ci := 7) (v := .ref bg) (C := "PacketRows$Writer") (T := TWR) (N := 7) hx hb hts inWR hown hK hP 0 rfl rfl 2 (by decide) (hU hts u_247) (fun _ h9 => h9) rfl dWR_beginHead_8 ?_
    refine lv_iload_n hx hb dWR_beginHead_11 rfl (lv_at hl 1 rfl) ?_
    refine lv_aload_n hx hb dWR_beginHead_12 rfl (lv_at hl 0 rfl) ?_
    refine va_get (D := (dC, dI)) (ci := 7) (v := .int (nI σ.2.2.1)) (C := "PacketRows$Writer") (T := TWR) (N := 7) hx hb hts inWR hown hK hP 0 rfl rfl 3 (by decide) (hU hts u_249) (fun _ h9 => h9) rfl dWR_beginHead_13 ?_
    refine qi_ast hx hb hK hP hD hS 3 0 rfl rfl (k := k) (v := σ.2.2.1) (by omega) (by omega) dWR_beginHead_16 (fun H locs hP hD hS => ?_)
    have hP : va_P (dC, dI) vwCl [(wr, .inr (7, [.int (nI σ.1), .ref br, .ref bg, .int (nI σ.2.2.1), .int (bI ms), .int (nI σ.2.2.2.1), .int (nI σ.2.2.2.2)])), (br, .inr (0, [.ref row, .int (nI bz)])), (row, .inl (cI, 6000, .inl (fun j => nI (σ.2.1 j)))), (bg, .inl (cI, np, .inl (fun j => nI ((va_up fb k σ.2.2.1) j))))] H := hP
    have hD : va_D A [(wr, .inr (7, [.int (nI σ.1), .ref br, .ref bg, .int (nI σ.2.2.1), .int (bI ms), .int (nI σ.2.2.2.1), .int (nI σ.2.2.2.2)])), (br, .inr (0, [.ref row, .int (nI bz)])), (row, .inl (cI, 6000, .inl (fun j => nI (σ.2.1 j)))), (bg, .inl (cI, np, .inl (fun j => nI ((va_up fb k σ.2.2.1) j))))] := hD
    exact hret () _ _ _ _ dWR_beginHead_17 trivial (by unfold m_beg; first | (rw [if_pos (show ms = false from c_4)]; exact hP) | (rw [if_neg (show ¬ ms = false from by rw [c_4]; decide)]; exact hP)) hS
set_option maxHeartbeats 4000000 in
set_option maxRecDepth 100000 in
theorem k_Writer_endHead (l : Launch) (dC : Nat → ClassId) (dI : Nat → Nat → Nat) (cI cZ cL : ClassId) (wr br bg row bz : Nat) (ms : Bool) (σ : wS) (hok : okW 8 σ) :
    q_CV l (dC, dI) vwCl (tyL cI cZ cL) yWR_endHead wsWR_endHead (rmD 1) [.ref wr] [(wr, .inr (7, [.int (nI σ.1), .ref br, .ref bg, .int (nI σ.2.2.1), .int (bI ms), .int (nI σ.2.2.2.1), .int (nI σ.2.2.2.2)])), (br, .inr (0, [.ref row, .int (nI bz)])), (row, .inl (cI, 6000, .inl (fun j => nI (σ.2.1 j))))] (fun (_ : Unit) => True) (fun (_ : Unit) => [(wr, .inr (7, [.int (nI ((t_wend ms 8 σ).1)), .ref br, .ref bg, .int (nI ((t_wend ms 8 σ).2.2.1)), .int (bI ms), .int (nI ((t_wend ms 8 σ).2.2.2.1)), .int (nI ((t_wend ms 8 σ).2.2.2.2))])), (br, .inr (0, [.ref row, .int (nI bz)])), (row, .inl (cI, 6000, .inl (fun j => nI (((t_wend ms 8 σ).2.1) j))))]) := by
  refine q_entV "PacketRows$Writer" (by decide) rfl rfl (Nat.le_of_ble_eq_true rfl) ?_
  intro p e s m below meth c ls Q A hx hb hml hts hown hP hD hK hZ hO hA hS hl hret
  have hl : lv_has ls 2 [(0, .ref wr)] := hl
  refine lv_iconst (v := nI 0) hx hb dWR_endHead_0 (by decide +kernel) ?_
  refine lv_istore_n (lv' := [(1, .int (nI 0)), (0, .ref wr)]) hx hb dWR_endHead_1 rfl hl (by decide) rfl (fun ls hl => ?_)
  have lp_2 : ∀ (fu : Nat) (i : Nat) (sg : wS) (H : Heap) (locs : List Loc) (ls : Array Slot), 8 - i < fu → (i ≤ 8) → (okW (8 - i) sg) → (t_wend ms (8 - i) sg = t_wend ms 8 σ) → va_P (dC, dI) vwCl [(wr, .inr (7, [.int (nI sg.1), .ref br, .ref bg, .int (nI sg.2.2.1), .int (bI ms), .int (nI sg.2.2.2.1), .int (nI sg.2.2.2.2)])), (br, .inr (0, [.ref row, .int (nI bz)])), (row, .inl (cI, 6000, .inl (fun j => nI (sg.2.1 j))))] H → va_D A [(wr, .inr (7, [.int (nI sg.1), .ref br, .ref bg, .int (nI sg.2.2.1), .int (bI ms), .int (nI sg.2.2.2.1), .int (nI sg.2.2.2.2)])), (br, .inr (0, [.ref row, .int (nI bz)])), (row, .inl (cI, 6000, .inl (fun j => nI (sg.2.1 j))))] → va_S A s.heap H locs → lv_has ls 2 [(1, .int (nI i)), (0, .ref wr)] → W p l e (headSpec wsWR_endHead (rmD 1)).room s m [.ref wr].toArray below meth c H locs 0 0 Q (F0 m 2 ls []) := by
    intro fu
    induction fu with
    | zero => intro i sg H locs ls hmeas; exact absurd hmeas (Nat.not_lt_zero _)
    | succ fu ih_2 =>
      intro i sg H locs ls hmeas hi hok hf hP hD hS hl
      refine lv_iload_n hx hb dWR_endHead_2 rfl (lv_at hl 0 rfl) ?_
      refine lv_bipush (v := nI 8) hx hb dWR_endHead_3 (by decide +kernel) ?_
      refine qn_cge (tgt := 29) hx hb dWR_endHead_5 (by decide) (by omega) (by omega) (fun c_5 => ?_) (fun c_5 => ?_)
      · have e9 : sg = t_wend ms 8 σ := (t_wend_stop (ms := ms) (n := 8 - i) (s := sg) (by omega)).symm.trans hf
        exact hret () _ _ _ _ dWR_endHead_29 trivial (by rw [← e9]; exact hP) hS
      · refine lv_aload_n hx hb dWR_endHead_8 rfl (lv_at hl 1 rfl) ?_
        refine va_get (D := (dC, dI)) (ci := 7) (v := .int (nI sg.2.2.2.2)) (C := "PacketRows$Writer") (T := TWR) (N := 7) hx hb hts inWR hown hK hP 0 rfl rfl 6 (by decide) (hU hts u_253) (fun _ h9 => h9) rfl dWR_endHead_9 ?_
        refine lv_bipush (v := nI 8) hx hb dWR_endHead_12 (by decide +kernel) ?_
        refine qn_cge (tgt := 29) hx hb dWR_endHead_14 (by decide) (by have := hok.2.1; omega) (by omega) (fun c_14 => ?_) (fun c_14 => ?_)
        · have e9 : sg = t_wend ms 8 σ := (t_wend_stop (ms := ms) (n := 8 - i) (s := sg) (by omega)).symm.trans hf
          exact hret () _ _ _ _ dWR_endHead_29 trivial (by rw [← e9]; exact hP) hS
        · refine lv_aload_n hx hb dWR_endHead_17 rfl (lv_at hl 1 rfl) ?_
          refine lv_iconst (v := bI false) hx hb dWR_endHead_18 (by decide +kernel) ?_
          refine q_calli (va_runV (As := [.int (bI false)]) (rest := []) ⟨hx, hb, hml, hown, hts⟩ (k_Writer_bit l dC dI cI cZ cL wr br bg row bz ms sg false (okW_le hok (by omega)) H.size) (cwV 1 hts (gV u_906 u_847 u_1387 u_47 u_848) rfl rfl rfl (by decide +kernel) ⟨Nat.le_of_ble_eq_true rfl, Nat.le_of_ble_eq_true rfl⟩) (q_preMV hK hZ hO hS hA hP hD [0, 1, 2] rfl (by decide) rfl rfl) rfl rfl hl.1 rfl (lv_room (Nat.le_of_ble_eq_true rfl)) dWR_endHead_19 ⟨Nat.le_of_ble_eq_true rfl, Nat.le_of_ble_eq_true rfl⟩) hP hD hS hA [0, 1, 2] rfl (by decide) (fun _ => by simp only [List.map_cons, List.map_nil]) (fun r_ u_ H locs hpost hP hD hS => ?_)
          have hP : va_P (dC, dI) vwCl [(wr, .inr (7, [.int (nI ((bitW ms sg false).2.1)), .ref br, .ref bg, .int (nI ((bitW ms sg false).2.2.2.1)), .int (bI ms), .int (nI ((bitW ms sg false).2.2.2.2.1)), .int (nI ((bitW ms sg false).2.2.2.2.2))])), (br, .inr (0, [.ref row, .int (nI bz)])), (row, .inl (cI, 6000, .inl (fun j => nI (((bitW ms sg false).2.2.1) j))))] H := hP
          have hD : va_D A [(wr, .inr (7, [.int (nI ((bitW ms sg false).2.1)), .ref br, .ref bg, .int (nI ((bitW ms sg false).2.2.2.1)), .int (bI ms), .int (nI ((bitW ms sg false).2.2.2.2.1)), .int (nI ((bitW ms sg false).2.2.2.2.2))])), (br, .inr (0, [.ref row, .int (nI bz)])), (row, .inl (cI, 6000, .inl (fun j => nI (((bitW ms sg false).2.2.1) j))))] := hD
          subst hpost
          refine lv_pop hx hb dWR_endHead_22 rfl ?_
          refine lv_iinc (v := nI (i + 1)) (lv' := [(1, .int (nI (i + 1))), (0, .ref wr)]) hx hb dWR_endHead_23 hl (k := 0) rfl (nI_inc _) (by decide) rfl (fun ls hl => ?_)
          refine lv_goto (tgt := 2) hx hb dWR_endHead_26 (by decide) ?_
          exact ih_2 (i + 1) ((bitW ms sg false).2) _ _ _ (by omega) (by omega) (okW_bit (by rw [show 8 - (i + 1) + 1 = 8 - i by omega]; exact hok) _) (by rw [← hf, show 8 - i = 8 - (i + 1) + 1 by omega, t_wend, if_pos c_14]) hP hD hS (lv_sub hl [0, 1] rfl)
  exact lp_2 _ 0 σ _ _ _ (Nat.lt_succ_self _) (by omega) hok rfl hP hD hS (lv_sub hl [0, 1] rfl)
set_option maxHeartbeats 4000000 in
set_option maxRecDepth 100000 in
theorem k_Reader_endHead (l : Launch) (dC : Nat → ClassId) (dI : Nat → Nat → Nat) (cI cZ cL : ClassId) (rd br row bz : Nat) (f : Nat → Nat) (σ : rS) (hok : okR bz σ) (hbz : bz ≤ 6000) (hf5 : ∀ j, f j < 256) :
    q_CV l (dC, dI) vwCl (tyL cI cZ cL) yRD_endHead wsRD_endHead (rmD 1) [.ref rd] [(rd, .inr (4, [.int (nI σ.1), .ref br, .int (nI σ.2.1), .int (nI σ.2.2.1), .int (nI σ.2.2.2)])), (br, .inr (0, [.ref row, .int (nI bz)])), (row, .inl (cI, 6000, .inl (fun j => nI (f j))))] (fun (_ : Unit) => True) (fun (_ : Unit) => [(rd, .inr (4, [.int (nI ((t_rend f bz σ).1)), .ref br, .int (nI ((t_rend f bz σ).2.1)), .int (nI ((t_rend f bz σ).2.2.1)), .int (nI ((t_rend f bz σ).2.2.2))])), (br, .inr (0, [.ref row, .int (nI bz)])), (row, .inl (cI, 6000, .inl (fun j => nI (f j))))]) := by
  refine q_entV "PacketRows$Reader" (by decide) rfl rfl (Nat.le_of_ble_eq_true rfl) ?_
  intro p e s m below meth c ls Q A hx hb hml hts hown hP hD hK hZ hO hA hS hl hret
  have hl : lv_has ls 1 [(0, .ref rd)] := hl
  refine lv_aload_n hx hb dRD_endHead_0 rfl (lv_at hl 0 rfl) ?_
  refine va_get (D := (dC, dI)) (ci := 4) (v := .int (nI σ.2.2.1)) (C := "PacketRows$Reader") (T := TRD) (N := 5) hx hb hts inRD hown hK hP 0 rfl rfl 3 (by decide) (hU hts u_283) (fun _ h9 => h9) rfl dRD_endHead_1 ?_
  refine lv_sipush (v := nI 255) hx hb dRD_endHead_4 (by decide +kernel) ?_
  refine qn_cne (tgt := 21) hx hb dRD_endHead_7 (by decide) (by have : σ.2.2.1 < 256 := hok.2.1; omega) (by omega) (fun c_7 => ?_) (fun c_7 => ?_)
  · exact hret () _ _ _ _ dRD_endHead_21 trivial (by unfold t_rend; first | (rw [if_pos (show σ.2.2.1 = 255 from c_7)]; exact hP) | (rw [if_neg (show ¬ σ.2.2.1 = 255 from c_7)]; exact hP)) hS
  · refine lv_aload_n hx hb dRD_endHead_10 rfl (lv_at hl 0 rfl) ?_
    refine lv_iconst (v := nI 0) hx hb dRD_endHead_11 (by decide +kernel) ?_
    refine va_put (D := (dC, dI)) (ci := 4) (v := .int (nI 0)) (ty := .int) (C := "PacketRows$Reader") (T := TRD) (N := 5) hx hb hts inRD tyRD tyRD_ok nmRD hown hK hP hD hS 0 rfl rfl 4 (by decide) (hU hts u_284) (fun _ h9 => h9) rfl (by decide +kernel) rfl rfl (Nat.le_of_ble_eq_true rfl) dRD_endHead_12 (fun H locs hP hD hS => ?_)
    have hP : va_P (dC, dI) vwCl [(rd, .inr (4, [.int (nI σ.1), .ref br, .int (nI σ.2.1), .int (nI σ.2.2.1), .int (nI 0)])), (br, .inr (0, [.ref row, .int (nI bz)])), (row, .inl (cI, 6000, .inl (fun j => nI (f j))))] H := hP
    have hD : va_D A [(rd, .inr (4, [.int (nI σ.1), .ref br, .int (nI σ.2.1), .int (nI σ.2.2.1), .int (nI 0)])), (br, .inr (0, [.ref row, .int (nI bz)])), (row, .inl (cI, 6000, .inl (fun j => nI (f j))))] := hD
    refine lv_aload_n hx hb dRD_endHead_15 rfl (lv_at hl 0 rfl) ?_
    refine lv_iconst (v := bI false) hx hb dRD_endHead_16 (by decide +kernel) ?_
    refine q_calli (va_runV (As := [.int (bI false)]) (rest := []) ⟨hx, hb, hml, hown, hts⟩ (k_Reader_bit l dC dI cI cZ cL rd br row bz f (σ.1, σ.2.1, σ.2.2.1, 0) false ⟨Nat.zero_le _, hok.2.1, hok.2.2.1, hok.2.2.2⟩ hbz hf5 H.size) (cwV 1 hts (gV u_902 u_844 u_1386 u_48 u_845) rfl rfl rfl (by decide +kernel) ⟨Nat.le_of_ble_eq_true rfl, Nat.le_of_ble_eq_true rfl⟩) (q_preMV hK hZ hO hS hA hP hD [0, 1, 2] rfl (by decide) rfl rfl) rfl rfl hl.1 rfl (lv_room (Nat.le_of_ble_eq_true rfl)) dRD_endHead_17 ⟨Nat.le_of_ble_eq_true rfl, Nat.le_of_ble_eq_true rfl⟩) hP hD hS hA [0, 1, 2] rfl (by decide) (fun _ => by simp only [List.map_cons, List.map_nil]) (fun r_ u_ H locs hpost hP hD hS => ?_)
    have hP : va_P (dC, dI) vwCl [(rd, .inr (4, [.int (nI ((bitR f bz (σ.1, σ.2.1, σ.2.2.1, 0) false).2.1)), .ref br, .int (nI ((bitR f bz (σ.1, σ.2.1, σ.2.2.1, 0) false).2.2.1)), .int (nI ((bitR f bz (σ.1, σ.2.1, σ.2.2.1, 0) false).2.2.2.1)), .int (nI ((bitR f bz (σ.1, σ.2.1, σ.2.2.1, 0) false).2.2.2.2))])), (br, .inr (0, [.ref row, .int (nI bz)])), (row, .inl (cI, 6000, .inl (fun j => nI (f j))))] H := hP
    have hD : va_D A [(rd, .inr (4, [.int (nI ((bitR f bz (σ.1, σ.2.1, σ.2.2.1, 0) false).2.1)), .ref br, .int (nI ((bitR f bz (σ.1, σ.2.1, σ.2.2.1, 0) false).2.2.1)), .int (nI ((bitR f bz (σ.1, σ.2.1, σ.2.2.1, 0) false).2.2.2.1)), .int (nI ((bitR f bz (σ.1, σ.2.1, σ.2.2.1, 0) false).2.2.2.2))])), (br, .inr (0, [.ref row, .int (nI bz)])), (row, .inl (cI, 6000, .inl (fun j => nI (f j))))] := hD
    subst hpost
    refine lv_pop hx hb dRD_endHead_20 rfl ?_
    exact hret () _ _ _ _ dRD_endHead_21 trivial (by unfold t_rend; first | (rw [if_pos (show σ.2.2.1 = 255 from c_7)]; exact hP) | (rw [if_neg (show ¬ σ.2.2.1 = 255 from c_7)]; exact hP)) hS

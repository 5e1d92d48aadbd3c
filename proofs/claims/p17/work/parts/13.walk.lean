set_option maxHeartbeats 4000000 in
set_option maxRecDepth 100000 in
theorem k_Writer_start (l : Launch) (dC : Nat → ClassId) (dI : Nat → Nat → Nat) (cI cZ cL : ClassId) (wr br bg row bz : Nat) (ms : Bool) (σ : wS) (z : Bool)  :
    q_CV l (dC, dI) vwCl (tyL cI cZ cL) yWR_start wsWR_start (rmD 0) [.ref wr, .int (bI z)] [(wr, .inr (7, [.int (nI σ.1), .ref br, .ref bg, .int (nI σ.2.2.1), .int (bI ms), .int (nI σ.2.2.2.1), .int (nI σ.2.2.2.2)])), (br, .inr (0, [.ref row, .int (nI bz)])), (row, .inl (cI, 6000, .inl (fun j => nI (σ.2.1 j))))] (fun (_ : Unit) => True) (fun (_ : Unit) => [(wr, .inr (7, [.int (nI σ.1), .ref br, .ref bg, .int (nI 0), .int (bI z), .int (nI 0), .int (nI 8)])), (br, .inr (0, [.ref row, .int (nI bz)])), (row, .inl (cI, 6000, .inl (fun j => nI (σ.2.1 j))))]) := by
  refine q_entV "PacketRows$Writer" (by decide) rfl rfl (Nat.le_of_ble_eq_true rfl) ?_
  intro p e s m below meth c ls Q A hx hb hml hts hown hP hD hK hZ hO hA hS hl hret
  have hl : lv_has ls 2 [(0, .ref wr), (1, .int (bI z))] := hl
  refine lv_aload_n hx hb dWR_start_0 rfl (lv_at hl 0 rfl) ?_
  refine lv_iload_n hx hb dWR_start_1 rfl (lv_at hl 1 rfl) ?_
  refine va_put (D := (dC, dI)) (ci := 7) (v := .int (bI z)) (ty := .boolean) (C := "PacketRows$Writer") (T := TWR) (N := 7) hx hb hts inWR tyWR tyWR_ok nmWR hown hK hP hD hS 0 rfl rfl 4 (by decide) (hU hts u_251) (fun _ h9 => h9) rfl (by decide +kernel) (bI_nb _) (bI_fit _) (Nat.le_of_ble_eq_true rfl) dWR_start_2 (fun H locs hP hD hS => ?_)
  have hP : va_P (dC, dI) vwCl [(wr, .inr (7, [.int (nI σ.1), .ref br, .ref bg, .int (nI σ.2.2.1), .int (bI z), .int (nI σ.2.2.2.1), .int (nI σ.2.2.2.2)])), (br, .inr (0, [.ref row, .int (nI bz)])), (row, .inl (cI, 6000, .inl (fun j => nI (σ.2.1 j))))] H := hP
  have hD : va_D A [(wr, .inr (7, [.int (nI σ.1), .ref br, .ref bg, .int (nI σ.2.2.1), .int (bI z), .int (nI σ.2.2.2.1), .int (nI σ.2.2.2.2)])), (br, .inr (0, [.ref row, .int (nI bz)])), (row, .inl (cI, 6000, .inl (fun j => nI (σ.2.1 j))))] := hD
  refine lv_aload_n hx hb dWR_start_5 rfl (lv_at hl 0 rfl) ?_
  refine lv_iconst (v := nI 0) hx hb dWR_start_6 (by decide +kernel) ?_
  refine va_put (D := (dC, dI)) (ci := 7) (v := .int (nI 0)) (ty := .int) (C := "PacketRows$Writer") (T := TWR) (N := 7) hx hb hts inWR tyWR tyWR_ok nmWR hown hK hP hD hS 0 rfl rfl 3 (by decide) (hU hts u_249) (fun _ h9 => h9) rfl (by decide +kernel) rfl rfl (Nat.le_of_ble_eq_true rfl) dWR_start_7 (fun H locs hP hD hS => ?_)
  have hP : va_P (dC, dI) vwCl [(wr, .inr (7, [.int (nI σ.1), .ref br, .ref bg, .int (nI 0), .int (bI z), .int (nI σ.2.2.2.1), .int (nI σ.2.2.2.2)])), (br, .inr (0, [.ref row, .int (nI bz)])), (row, .inl (cI, 6000, .inl (fun j => nI (σ.2.1 j))))] H := hP
  have hD : va_D A [(wr, .inr (7, [.int (nI σ.1), .ref br, .ref bg, .int (nI 0), .int (bI z), .int (nI σ.2.2.2.1), .int (nI σ.2.2.2.2)])), (br, .inr (0, [.ref row, .int (nI bz)])), (row, .inl (cI, 6000, .inl (fun j => nI (σ.2.1 j))))] := hD
  refine lv_aload_n hx hb dWR_start_10 rfl (lv_at hl 0 rfl) ?_
  refine lv_iconst (v := nI 0) hx hb dWR_start_11 (by decide +kernel) ?_
  refine va_put (D := (dC, dI)) (ci := 7) (v := .int (nI 0)) (ty := .int) (C := "PacketRows$Writer") (T := TWR) (N := 7) hx hb hts inWR tyWR tyWR_ok nmWR hown hK hP hD hS 0 rfl rfl 5 (by decide) (hU hts u_252) (fun _ h9 => h9) rfl (by decide +kernel) rfl rfl (Nat.le_of_ble_eq_true rfl) dWR_start_12 (fun H locs hP hD hS => ?_)
  have hP : va_P (dC, dI) vwCl [(wr, .inr (7, [.int (nI σ.1), .ref br, .ref bg, .int (nI 0), .int (bI z), .int (nI 0), .int (nI σ.2.2.2.2)])), (br, .inr (0, [.ref row, .int (nI bz)])), (row, .inl (cI, 6000, .inl (fun j => nI (σ.2.1 j))))] H := hP
  have hD : va_D A [(wr, .inr (7, [.int (nI σ.1), .ref br, .ref bg, .int (nI 0), .int (bI z), .int (nI 0), .int (nI σ.2.2.2.2)])), (br, .inr (0, [.ref row, .int (nI bz)])), (row, .inl (cI, 6000, .inl (fun j => nI (σ.2.1 j))))] := hD
  refine lv_aload_n hx hb dWR_start_15 rfl (lv_at hl 0 rfl) ?_
  refine lv_bipush (v := nI 8) hx hb dWR_start_16 (by decide +kernel) ?_
  refine va_put (D := (dC, dI)) (ci := 7) (v := .int (nI 8)) (ty := .int) (C := "PacketRows$Writer") (T := TWR) (N := 7) hx hb hts inWR tyWR tyWR_ok nmWR hown hK hP hD hS 0 rfl rfl 6 (by decide) (hU hts u_253) (fun _ h9 => h9) rfl (by decide +kernel) rfl rfl (Nat.le_of_ble_eq_true rfl) dWR_start_18 (fun H locs hP hD hS => ?_)
  have hP : va_P (dC, dI) vwCl [(wr, .inr (7, [.int (nI σ.1), .ref br, .ref bg, .int (nI 0), .int (bI z), .int (nI 0), .int (nI 8)])), (br, .inr (0, [.ref row, .int (nI bz)])), (row, .inl (cI, 6000, .inl (fun j => nI (σ.2.1 j))))] H := hP
  have hD : va_D A [(wr, .inr (7, [.int (nI σ.1), .ref br, .ref bg, .int (nI 0), .int (bI z), .int (nI 0), .int (nI 8)])), (br, .inr (0, [.ref row, .int (nI bz)])), (row, .inl (cI, 6000, .inl (fun j => nI (σ.2.1 j))))] := hD
  exact hret () _ _ _ _ dWR_start_21 trivial hP hS
set_option maxHeartbeats 4000000 in
set_option maxRecDepth 100000 in
theorem k_Writer_bit (l : Launch) (dC : Nat → ClassId) (dI : Nat → Nat → Nat) (cI cZ cL : ClassId) (wr br bg row bz : Nat) (ms : Bool) (σ : wS) (d : Bool) (hok : okW 1 σ) :
    q_CI l (dC, dI) vwCl (tyL cI cZ cL) yWR_bit wsWR_bit (rmD 0) [.ref wr, .int (bI d)] [(wr, .inr (7, [.int (nI σ.1), .ref br, .ref bg, .int (nI σ.2.2.1), .int (bI ms), .int (nI σ.2.2.2.1), .int (nI σ.2.2.2.2)])), (br, .inr (0, [.ref row, .int (nI bz)])), (row, .inl (cI, 6000, .inl (fun j => nI (σ.2.1 j))))] (fun (z : Int32) (_ : Unit) => z = bI d) (fun (_ : Unit) => [(wr, .inr (7, [.int (nI ((bitW ms σ d).2.1)), .ref br, .ref bg, .int (nI ((bitW ms σ d).2.2.2.1)), .int (bI ms), .int (nI ((bitW ms σ d).2.2.2.2.1)), .int (nI ((bitW ms σ d).2.2.2.2.2))])), (br, .inr (0, [.ref row, .int (nI bz)])), (row, .inl (cI, 6000, .inl (fun j => nI (((bitW ms σ d).2.2.1) j))))]) := by
  refine q_entI "PacketRows$Writer" (by decide) rfl (fun r u h => by rw [h]; exact bI_nb _) rfl (Nat.le_of_ble_eq_true rfl) ?_
  intro p e s m below meth c ls Q A hx hb hml hts hown hP hD hK hZ hO hA hS hl hret
  have hl : lv_has ls 2 [(0, .ref wr), (1, .int (bI d))] := hl
  have h1 := hok.1
  have h2 := hok.2.1
  have h3 := hok.2.2.1
  have h4 := hok.2.2.2.1
  refine lv_aload_n hx hb dWR_bit_0 rfl (lv_at hl 0 rfl) ?_
  refine lv_dup hx hb dWR_bit_1 rfl ?_
  refine va_get (D := (dC, dI)) (ci := 7) (v := .int (nI σ.2.2.2.2)) (C := "PacketRows$Writer") (T := TWR) (N := 7) hx hb hts inWR hown hK hP 0 rfl rfl 6 (by decide) (hU hts u_253) (fun _ h9 => h9) rfl dWR_bit_2 ?_
  refine lv_iconst (v := nI 1) hx hb dWR_bit_5 (by decide +kernel) ?_
  refine qn_isub hx hb dWR_bit_6 (by omega) ?_
  refine va_put (D := (dC, dI)) (ci := 7) (v := .int (nI (σ.2.2.2.2 - 1))) (ty := .int) (C := "PacketRows$Writer") (T := TWR) (N := 7) hx hb hts inWR tyWR tyWR_ok nmWR hown hK hP hD hS 0 rfl rfl 6 (by decide) (hU hts u_253) (fun _ h9 => h9) rfl (by decide +kernel) rfl rfl (Nat.le_of_ble_eq_true rfl) dWR_bit_7 (fun H locs hP hD hS => ?_)
  have hP : va_P (dC, dI) vwCl [(wr, .inr (7, [.int (nI σ.1), .ref br, .ref bg, .int (nI σ.2.2.1), .int (bI ms), .int (nI σ.2.2.2.1), .int (nI (σ.2.2.2.2 - 1))])), (br, .inr (0, [.ref row, .int (nI bz)])), (row, .inl (cI, 6000, .inl (fun j => nI (σ.2.1 j))))] H := hP
  have hD : va_D A [(wr, .inr (7, [.int (nI σ.1), .ref br, .ref bg, .int (nI σ.2.2.1), .int (bI ms), .int (nI σ.2.2.2.1), .int (nI (σ.2.2.2.2 - 1))])), (br, .inr (0, [.ref row, .int (nI bz)])), (row, .inl (cI, 6000, .inl (fun j => nI (σ.2.1 j))))] := hD
  refine lv_aload_n hx hb dWR_bit_10 rfl (lv_at hl 0 rfl) ?_
  refine lv_dup hx hb dWR_bit_11 rfl ?_
  refine va_get (D := (dC, dI)) (ci := 7) (v := .int (nI σ.2.2.2.1)) (C := "PacketRows$Writer") (T := TWR) (N := 7) hx hb hts inWR hown hK hP 0 rfl rfl 5 (by decide) (hU hts u_252) (fun _ h9 => h9) rfl dWR_bit_12 ?_
  refine lv_iload_n hx hb dWR_bit_15 rfl (lv_at hl 1 rfl) ?_
  have jn_24 : W p l e (headSpec wsWR_bit (rmD 0)).room s m [.ref wr, .int (bI d)].toArray below meth c H locs 0 0 Q (F0 m 24 ls [.int (nI (b2n d)), .int (nI σ.2.2.2.1), .ref wr]) := by
    refine lv_aload_n hx hb dWR_bit_24 rfl (lv_at hl 0 rfl) ?_
    refine va_get (D := (dC, dI)) (ci := 7) (v := .int (nI (σ.2.2.2.2 - 1))) (C := "PacketRows$Writer") (T := TWR) (N := 7) hx hb hts inWR hown hK hP 0 rfl rfl 6 (by decide) (hU hts u_253) (fun _ h9 => h9) rfl dWR_bit_25 ?_
    refine qn_ishl hx hb dWR_bit_28 (by omega) (m_b2lt (by omega)) ?_
    refine qn_ior hx hb dWR_bit_29 ?_
    refine qn_eq (y := nI (m_wc σ.2.2.2.1 σ.2.2.2.2 d)) rfl ?_
    refine va_put (D := (dC, dI)) (ci := 7) (v := .int (nI (m_wc σ.2.2.2.1 σ.2.2.2.2 d))) (ty := .int) (C := "PacketRows$Writer") (T := TWR) (N := 7) hx hb hts inWR tyWR tyWR_ok nmWR hown hK hP hD hS 0 rfl rfl 5 (by decide) (hU hts u_252) (fun _ h9 => h9) rfl (by decide +kernel) rfl rfl (Nat.le_of_ble_eq_true rfl) dWR_bit_30 (fun H locs hP hD hS => ?_)
    have hP : va_P (dC, dI) vwCl [(wr, .inr (7, [.int (nI σ.1), .ref br, .ref bg, .int (nI σ.2.2.1), .int (bI ms), .int (nI (m_wc σ.2.2.2.1 σ.2.2.2.2 d)), .int (nI (σ.2.2.2.2 - 1))])), (br, .inr (0, [.ref row, .int (nI bz)])), (row, .inl (cI, 6000, .inl (fun j => nI (σ.2.1 j))))] H := hP
    have hD : va_D A [(wr, .inr (7, [.int (nI σ.1), .ref br, .ref bg, .int (nI σ.2.2.1), .int (bI ms), .int (nI (m_wc σ.2.2.2.1 σ.2.2.2.2 d)), .int (nI (σ.2.2.2.2 - 1))])), (br, .inr (0, [.ref row, .int (nI bz)])), (row, .inl (cI, 6000, .inl (fun j => nI (σ.2.1 j))))] := hD
    refine lv_aload_n hx hb dWR_bit_33 rfl (lv_at hl 0 rfl) ?_
    refine va_get (D := (dC, dI)) (ci := 7) (v := .int (nI (σ.2.2.2.2 - 1))) (C := "PacketRows$Writer") (T := TWR) (N := 7) hx hb hts inWR hown hK hP 0 rfl rfl 6 (by decide) (hU hts u_253) (fun _ h9 => h9) rfl dWR_bit_34 ?_
    refine qn_ine (tgt := 109) hx hb dWR_bit_37 (by decide) (by omega) (fun c_37 => ?_) (fun c_37 => ?_)
    · refine lv_iload_n hx hb dWR_bit_109 rfl (lv_at hl 1 rfl) ?_
      exact hret _ () _ _ _ _ dWR_bit_110 rfl (by unfold bitW m_wb; first | (rw [if_neg (show ¬ σ.2.2.2.2 - 1 = 0 from by omega)]; exact hP) | (rw [if_pos (show σ.2.2.2.2 - 1 = 0 from c_37)]; (first | rw [if_pos (show ms = false ∧ σ.2.2.1 < 6000 from ⟨c_44, c_54⟩)] | rw [if_neg (show ¬ (ms = false ∧ σ.2.2.1 < 6000) from fun h => by omega)] | rw [if_neg (show ¬ (ms = false ∧ σ.2.2.1 < 6000) from fun h => by rw [h.1] at c_44; cases c_44)]); (first | rw [if_pos (show m_wc σ.2.2.2.1 σ.2.2.2.2 d = 255 from c_91)] | rw [if_neg (show ¬ m_wc σ.2.2.2.1 σ.2.2.2.2 d = 255 from c_91)]); exact hP)) hS
    · refine lv_aload_n hx hb dWR_bit_40 rfl (lv_at hl 0 rfl) ?_
      refine va_get (D := (dC, dI)) (ci := 7) (v := .int (bI ms)) (C := "PacketRows$Writer") (T := TWR) (N := 7) hx hb hts inWR hown hK hP 0 rfl rfl 4 (by decide) (hU hts u_251) (fun _ h9 => h9) rfl dWR_bit_41 ?_
      refine qb_ine (tgt := 73) hx hb dWR_bit_44 (by decide) (fun c_44 => ?_) (fun c_44 => ?_)
      · refine lv_aload_n hx hb dWR_bit_73 rfl (lv_at hl 0 rfl) ?_
        refine lv_dup hx hb dWR_bit_74 rfl ?_
        refine va_get (D := (dC, dI)) (ci := 7) (v := .int (nI σ.2.2.1)) (C := "PacketRows$Writer") (T := TWR) (N := 7) hx hb hts inWR hown hK hP 0 rfl rfl 3 (by decide) (hU hts u_249) (fun _ h9 => h9) rfl dWR_bit_75 ?_
        refine lv_iconst (v := nI 1) hx hb dWR_bit_78 (by decide +kernel) ?_
        refine qn_iadd hx hb dWR_bit_79 ?_
        refine va_put (D := (dC, dI)) (ci := 7) (v := .int (nI (σ.2.2.1 + 1))) (ty := .int) (C := "PacketRows$Writer") (T := TWR) (N := 7) hx hb hts inWR tyWR tyWR_ok nmWR hown hK hP hD hS 0 rfl rfl 3 (by decide) (hU hts u_249) (fun _ h9 => h9) rfl (by decide +kernel) rfl rfl (Nat.le_of_ble_eq_true rfl) dWR_bit_80 (fun H locs hP hD hS => ?_)
        have hP : va_P (dC, dI) vwCl [(wr, .inr (7, [.int (nI σ.1), .ref br, .ref bg, .int (nI (σ.2.2.1 + 1)), .int (bI ms), .int (nI (m_wc σ.2.2.2.1 σ.2.2.2.2 d)), .int (nI (σ.2.2.2.2 - 1))])), (br, .inr (0, [.ref row, .int (nI bz)])), (row, .inl (cI, 6000, .inl (fun j => nI (σ.2.1 j))))] H := hP
        have hD : va_D A [(wr, .inr (7, [.int (nI σ.1), .ref br, .ref bg, .int (nI (σ.2.2.1 + 1)), .int (bI ms), .int (nI (m_wc σ.2.2.2.1 σ.2.2.2.2 d)), .int (nI (σ.2.2.2.2 - 1))])), (br, .inr (0, [.ref row, .int (nI bz)])), (row, .inl (cI, 6000, .inl (fun j => nI (σ.2.1 j))))] := hD
        refine lv_aload_n hx hb dWR_bit_83 rfl (lv_at hl 0 rfl) ?_
        refine lv_aload_n hx hb dWR_bit_84 rfl (lv_at hl 0 rfl) ?_
        refine va_get (D := (dC, dI)) (ci := 7) (v := .int (nI (m_wc σ.2.2.2.1 σ.2.2.2.2 d))) (C := "PacketRows$Writer") (T := TWR) (N := 7) hx hb hts inWR hown hK hP 0 rfl rfl 5 (by decide) (hU hts u_252) (fun _ h9 => h9) rfl dWR_bit_85 ?_
        refine lv_sipush (v := nI 255) hx hb dWR_bit_88 (by decide +kernel) ?_
        refine qn_cne (tgt := 99) hx hb dWR_bit_91 (by decide) (by have := m_wc_lt (d := d) h3 h2; omega) (by omega) (fun c_91 => ?_) (fun c_91 => ?_)
        · refine lv_bipush (v := nI 8) hx hb dWR_bit_99 (by decide +kernel) ?_
          refine va_put (D := (dC, dI)) (ci := 7) (v := .int (nI 8)) (ty := .int) (C := "PacketRows$Writer") (T := TWR) (N := 7) hx hb hts inWR tyWR tyWR_ok nmWR hown hK hP hD hS 0 rfl rfl 6 (by decide) (hU hts u_253) (fun _ h9 => h9) rfl (by decide +kernel) rfl rfl (Nat.le_of_ble_eq_true rfl) dWR_bit_101 (fun H locs hP hD hS => ?_)
          have hP : va_P (dC, dI) vwCl [(wr, .inr (7, [.int (nI σ.1), .ref br, .ref bg, .int (nI (σ.2.2.1 + 1)), .int (bI ms), .int (nI (m_wc σ.2.2.2.1 σ.2.2.2.2 d)), .int (nI 8)])), (br, .inr (0, [.ref row, .int (nI bz)])), (row, .inl (cI, 6000, .inl (fun j => nI (σ.2.1 j))))] H := hP
          have hD : va_D A [(wr, .inr (7, [.int (nI σ.1), .ref br, .ref bg, .int (nI (σ.2.2.1 + 1)), .int (bI ms), .int (nI (m_wc σ.2.2.2.1 σ.2.2.2.2 d)), .int (nI 8)])), (br, .inr (0, [.ref row, .int (nI bz)])), (row, .inl (cI, 6000, .inl (fun j => nI (σ.2.1 j))))] := hD
          refine lv_aload_n hx hb dWR_bit_104 rfl (lv_at hl 0 rfl) ?_
          refine lv_iconst (v := nI 0) hx hb dWR_bit_105 (by decide +kernel) ?_
          refine va_put (D := (dC, dI)) (ci := 7) (v := .int (nI 0)) (ty := .int) (C := "PacketRows$Writer") (T := TWR) (N := 7) hx hb hts inWR tyWR tyWR_ok nmWR hown hK hP hD hS 0 rfl rfl 5 (by decide) (hU hts u_252) (fun _ h9 => h9) rfl (by decide +kernel) rfl rfl (Nat.le_of_ble_eq_true rfl) dWR_bit_106 (fun H locs hP hD hS => ?_)
          have hP : va_P (dC, dI) vwCl [(wr, .inr (7, [.int (nI σ.1), .ref br, .ref bg, .int (nI (σ.2.2.1 + 1)), .int (bI ms), .int (nI 0), .int (nI 8)])), (br, .inr (0, [.ref row, .int (nI bz)])), (row, .inl (cI, 6000, .inl (fun j => nI (σ.2.1 j))))] H := hP
          have hD : va_D A [(wr, .inr (7, [.int (nI σ.1), .ref br, .ref bg, .int (nI (σ.2.2.1 + 1)), .int (bI ms), .int (nI 0), .int (nI 8)])), (br, .inr (0, [.ref row, .int (nI bz)])), (row, .inl (cI, 6000, .inl (fun j => nI (σ.2.1 j))))] := hD
          refine lv_iload_n hx hb dWR_bit_109 rfl (lv_at hl 1 rfl) ?_
          exact hret _ () _ _ _ _ dWR_bit_110 rfl (by unfold bitW m_wb; first | (rw [if_neg (show ¬ σ.2.2.2.2 - 1 = 0 from by omega)]; exact hP) | (rw [if_pos (show σ.2.2.2.2 - 1 = 0 from c_37)]; (first | rw [if_pos (show ms = false ∧ σ.2.2.1 < 6000 from ⟨c_44, c_54⟩)] | rw [if_neg (show ¬ (ms = false ∧ σ.2.2.1 < 6000) from fun h => by omega)] | rw [if_neg (show ¬ (ms = false ∧ σ.2.2.1 < 6000) from fun h => by rw [h.1] at c_44; cases c_44)]); (first | rw [if_pos (show m_wc σ.2.2.2.1 σ.2.2.2.2 d = 255 from c_91)] | rw [if_neg (show ¬ m_wc σ.2.2.2.1 σ.2.2.2.2 d = 255 from c_91)]); exact hP)) hS
        · refine lv_bipush (v := nI 7) hx hb dWR_bit_94 (by decide +kernel) ?_
          refine lv_goto (tgt := 101) hx hb dWR_bit_96 (by decide) ?_
          refine va_put (D := (dC, dI)) (ci := 7) (v := .int (nI 7)) (ty := .int) (C := "PacketRows$Writer") (T := TWR) (N := 7) hx hb hts inWR tyWR tyWR_ok nmWR hown hK hP hD hS 0 rfl rfl 6 (by decide) (hU hts u_253) (fun _ h9 => h9) rfl (by decide +kernel) rfl rfl (Nat.le_of_ble_eq_true rfl) dWR_bit_101 (fun H locs hP hD hS => ?_)
          have hP : va_P (dC, dI) vwCl [(wr, .inr (7, [.int (nI σ.1), .ref br, .ref bg, .int (nI (σ.2.2.1 + 1)), .int (bI ms), .int (nI (m_wc σ.2.2.2.1 σ.2.2.2.2 d)), .int (nI 7)])), (br, .inr (0, [.ref row, .int (nI bz)])), (row, .inl (cI, 6000, .inl (fun j => nI (σ.2.1 j))))] H := hP
          have hD : va_D A [(wr, .inr (7, [.int (nI σ.1), .ref br, .ref bg, .int (nI (σ.2.2.1 + 1)), .int (bI ms), .int (nI (m_wc σ.2.2.2.1 σ.2.2.2.2 d)), .int (nI 7)])), (br, .inr (0, [.ref row, .int (nI bz)])), (row, .inl (cI, 6000, .inl (fun j => nI (σ.2.1 j))))] := hD
          refine lv_aload_n hx hb dWR_bit_104 rfl (lv_at hl 0 rfl) ?_
          refine lv_iconst (v := nI 0) hx hb dWR_bit_105 (by decide +kernel) ?_
          refine va_put (D := (dC, dI)) (ci := 7) (v := .int (nI 0)) (ty := .int) (C := "PacketRows$Writer") (T := TWR) (N := 7) hx hb hts inWR tyWR tyWR_ok nmWR hown hK hP hD hS 0 rfl rfl 5 (by decide) (hU hts u_252) (fun _ h9 => h9) rfl (by decide +kernel) rfl rfl (Nat.le_of_ble_eq_true rfl) dWR_bit_106 (fun H locs hP hD hS => ?_)
          have hP : va_P (dC, dI) vwCl [(wr, .inr (7, [.int (nI σ.1), .ref br, .ref bg, .int (nI (σ.2.2.1 + 1)), .int (bI ms), .int (nI 0), .int (nI 7)])), (br, .inr (0, [.ref row, .int (nI bz)])), (row, .inl (cI, 6000, .inl (fun j => nI (σ.2.1 j))))] H := hP
          have hD : va_D A [(wr, .inr (7, [.int (nI σ.1), .ref br, .ref bg, .int (nI (σ.2.2.1 + 1)), .int (bI ms), .int (nI 0), .int (nI 7)])), (br, .inr (0, [.ref row, .int (nI bz)])), (row, .inl (cI, 6000, .inl (fun j => nI (σ.2.1 j))))] := hD
          refine lv_iload_n hx hb dWR_bit_109 rfl (lv_at hl 1 rfl) ?_
          exact hret _ () _ _ _ _ dWR_bit_110 rfl (by unfold bitW m_wb; first | (rw [if_neg (show ¬ σ.2.2.2.2 - 1 = 0 from by omega)]; exact hP) | (rw [if_pos (show σ.2.2.2.2 - 1 = 0 from c_37)]; (first | rw [if_pos (show ms = false ∧ σ.2.2.1 < 6000 from ⟨c_44, c_54⟩)] | rw [if_neg (show ¬ (ms = false ∧ σ.2.2.1 < 6000) from fun h => by omega)] | rw [if_neg (show ¬ (ms = false ∧ σ.2.2.1 < 6000) from fun h => by rw [h.1] at c_44; cases c_44)]); (first | rw [if_pos (show m_wc σ.2.2.2.1 σ.2.2.2.2 d = 255 from c_91)] | rw [if_neg (show ¬ m_wc σ.2.2.2.1 σ.2.2.2.2 d = 255 from c_91)]); exact hP)) hS
      · refine lv_aload_n hx hb dWR_bit_47 rfl (lv_at hl 0 rfl) ?_
        refine va_get (D := (dC, dI)) (ci := 7) (v := .int (nI σ.2.2.1)) (C := "PacketRows$Writer") (T := TWR) (N := 7) hx hb hts inWR hown hK hP 0 rfl rfl 3 (by decide) (hU hts u_249) (fun _ h9 => h9) rfl dWR_bit_48 ?_
        refine lv_sipush (v := nI 6000) hx hb dWR_bit_51 (by decide +kernel) ?_
        refine qn_cge (tgt := 73) hx hb dWR_bit_54 (by decide) (by omega) (by omega) (fun c_54 => ?_) (fun c_54 => ?_)
        · refine lv_aload_n hx hb dWR_bit_73 rfl (lv_at hl 0 rfl) ?_
          refine lv_dup hx hb dWR_bit_74 rfl ?_
          refine va_get (D := (dC, dI)) (ci := 7) (v := .int (nI σ.2.2.1)) (C := "PacketRows$Writer") (T := TWR) (N := 7) hx hb hts inWR hown hK hP 0 rfl rfl 3 (by decide) (hU hts u_249) (fun _ h9 => h9) rfl dWR_bit_75 ?_
          refine lv_iconst (v := nI 1) hx hb dWR_bit_78 (by decide +kernel) ?_
          refine qn_iadd hx hb dWR_bit_79 ?_
          refine va_put (D := (dC, dI)) (ci := 7) (v := .int (nI (σ.2.2.1 + 1))) (ty := .int) (C := "PacketRows$Writer") (T := TWR) (N := 7) hx hb hts inWR tyWR tyWR_ok nmWR hown hK hP hD hS 0 rfl rfl 3 (by decide) (hU hts u_249) (fun _ h9 => h9) rfl (by decide +kernel) rfl rfl (Nat.le_of_ble_eq_true rfl) dWR_bit_80 (fun H locs hP hD hS => ?_)
          have hP : va_P (dC, dI) vwCl [(wr, .inr (7, [.int (nI σ.1), .ref br, .ref bg, .int (nI (σ.2.2.1 + 1)), .int (bI ms), .int (nI (m_wc σ.2.2.2.1 σ.2.2.2.2 d)), .int (nI (σ.2.2.2.2 - 1))])), (br, .inr (0, [.ref row, .int (nI bz)])), (row, .inl (cI, 6000, .inl (fun j => nI (σ.2.1 j))))] H := hP
          have hD : va_D A [(wr, .inr (7, [.int (nI σ.1), .ref br, .ref bg, .int (nI (σ.2.2.1 + 1)), .int (bI ms), .int (nI (m_wc σ.2.2.2.1 σ.2.2.2.2 d)), .int (nI (σ.2.2.2.2 - 1))])), (br, .inr (0, [.ref row, .int (nI bz)])), (row, .inl (cI, 6000, .inl (fun j => nI (σ.2.1 j))))] := hD
          refine lv_aload_n hx hb dWR_bit_83 rfl (lv_at hl 0 rfl) ?_
          refine lv_aload_n hx hb dWR_bit_84 rfl (lv_at hl 0 rfl) ?_
          refine va_get (D := (dC, dI)) (ci := 7) (v := .int (nI (m_wc σ.2.2.2.1 σ.2.2.2.2 d))) (C := "PacketRows$Writer") (T := TWR) (N := 7) hx hb hts inWR hown hK hP 0 rfl rfl 5 (by decide) (hU hts u_252) (fun _ h9 => h9) rfl dWR_bit_85 ?_
          refine lv_sipush (v := nI 255) hx hb dWR_bit_88 (by decide +kernel) ?_
          refine qn_cne (tgt := 99) hx hb dWR_bit_91 (by decide) (by have := m_wc_lt (d := d) h3 h2; omega) (by omega) (fun c_91 => ?_) (fun c_91 => ?_)
          · refine lv_bipush (v := nI 8) hx hb dWR_bit_99 (by decide +kernel) ?_
            refine va_put (D := (dC, dI)) (ci := 7) (v := .int (nI 8)) (ty := .int) (C := "PacketRows$Writer") (T := TWR) (N := 7) hx hb hts inWR tyWR tyWR_ok nmWR hown hK hP hD hS 0 rfl rfl 6 (by decide) (hU hts u_253) (fun _ h9 => h9) rfl (by decide +kernel) rfl rfl (Nat.le_of_ble_eq_true rfl) dWR_bit_101 (fun H locs hP hD hS => ?_)
            have hP : va_P (dC, dI) vwCl [(wr, .inr (7, [.int (nI σ.1), .ref br, .ref bg, .int (nI (σ.2.2.1 + 1)), .int (bI ms), .int (nI (m_wc σ.2.2.2.1 σ.2.2.2.2 d)), .int (nI 8)])), (br, .inr (0, [.ref row, .int (nI bz)])), (row, .inl (cI, 6000, .inl (fun j => nI (σ.2.1 j))))] H := hP
            have hD : va_D A [(wr, .inr (7, [.int (nI σ.1), .ref br, .ref bg, .int (nI (σ.2.2.1 + 1)), .int (bI ms), .int (nI (m_wc σ.2.2.2.1 σ.2.2.2.2 d)), .int (nI 8)])), (br, .inr (0, [.ref row, .int (nI bz)])), (row, .inl (cI, 6000, .inl (fun j => nI (σ.2.1 j))))] := hD
            refine lv_aload_n hx hb dWR_bit_104 rfl (lv_at hl 0 rfl) ?_
            refine lv_iconst (v := nI 0) hx hb dWR_bit_105 (by decide +kernel) ?_
            refine va_put (D := (dC, dI)) (ci := 7) (v := .int (nI 0)) (ty := .int) (C := "PacketRows$Writer") (T := TWR) (N := 7) hx hb hts inWR tyWR tyWR_ok nmWR hown hK hP hD hS 0 rfl rfl 5 (by decide) (hU hts u_252) (fun _ h9 => h9) rfl (by decide +kernel) rfl rfl (Nat.le_of_ble_eq_true rfl) dWR_bit_106 (fun H locs hP hD hS => ?_)
            have hP : va_P (dC, dI) vwCl [(wr, .inr (7, [.int (nI σ.1), .ref br, .ref bg, .int (nI (σ.2.2.1 + 1)), .int (bI ms), .int (nI 0), .int (nI 8)])), (br, .inr (0, [.ref row, .int (nI bz)])), (row, .inl (cI, 6000, .inl (fun j => nI (σ.2.1 j))))] H := hP
            have hD : va_D A [(wr, .inr (7, [.int (nI σ.1), .ref br, .ref bg, .int (nI (σ.2.2.1 + 1)), .int (bI ms), .int (nI 0), .int (nI 8)])), (br, .inr (0, [.ref row, .int (nI bz)])), (row, .inl (cI, 6000, .inl (fun j => nI (σ.2.1 j))))] := hD
            refine lv_iload_n hx hb dWR_bit_109 rfl (lv_at hl 1 rfl) ?_
            exact hret _ () _ _ _ _ dWR_bit_110 rfl (by unfold bitW m_wb; first | (rw [if_neg (show ¬ σ.2.2.2.2 - 1 = 0 from by omega)]; exact hP) | (rw [if_pos (show σ.2.2.2.2 - 1 = 0 from c_37)]; (first | rw [if_pos (show ms = false ∧ σ.2.2.1 < 6000 from ⟨c_44, c_54⟩)] | rw [if_neg (show ¬ (ms = false ∧ σ.2.2.1 < 6000) from fun h => by omega)] | rw [if_neg (show ¬ (ms = false ∧ σ.2.2.1 < 6000) from fun h => by rw [h.1] at c_44; cases c_44)]); (first | rw [if_pos (show m_wc σ.2.2.2.1 σ.2.2.2.2 d = 255 from c_91)] | rw [if_neg (show ¬ m_wc σ.2.2.2.1 σ.2.2.2.2 d = 255 from c_91)]); exact hP)) hS
          · refine lv_bipush (v := nI 7) hx hb dWR_bit_94 (by decide +kernel) ?_
            refine lv_goto (tgt := 101) hx hb dWR_bit_96 (by decide) ?_
            refine va_put (D := (dC, dI)) (ci := 7) (v := .int (nI 7)) (ty := .int) (C := "PacketRows$Writer") (T := TWR) (N := 7) hx hb hts inWR tyWR tyWR_ok nmWR hown hK hP hD hS 0 rfl rfl 6 (by decide) (hU hts u_253) (fun _ h9 => h9) rfl (by decide +kernel) rfl rfl (Nat.le_of_ble_eq_true rfl) dWR_bit_101 (fun H locs hP hD hS => ?_)
            have hP : va_P (dC, dI) vwCl [(wr, .inr (7, [.int (nI σ.1), .ref br, .ref bg, .int (nI (σ.2.2.1 + 1)), .int (bI ms), .int (nI (m_wc σ.2.2.2.1 σ.2.2.2.2 d)), .int (nI 7)])), (br, .inr (0, [.ref row, .int (nI bz)])), (row, .inl (cI, 6000, .inl (fun j => nI (σ.2.1 j))))] H := hP
            have hD : va_D A [(wr, .inr (7, [.int (nI σ.1), .ref br, .ref bg, .int (nI (σ.2.2.1 + 1)), .int (bI ms), .int (nI (m_wc σ.2.2.2.1 σ.2.2.2.2 d)), .int (nI 7)])), (br, .inr (0, [.ref row, .int (nI bz)])), (row, .inl (cI, 6000, .inl (fun j => nI (σ.2.1 j))))] := hD
            refine lv_aload_n hx hb dWR_bit_104 rfl (lv_at hl 0 rfl) ?_
            refine lv_iconst (v := nI 0) hx hb dWR_bit_105 (by decide +kernel) ?_
            refine va_put (D := (dC, dI)) (ci := 7) (v := .int (nI 0)) (ty := .int) (C := "PacketRows$Writer") (T := TWR) (N := 7) hx hb hts inWR tyWR tyWR_ok nmWR hown hK hP hD hS 0 rfl rfl 5 (by decide) (hU hts u_252) (fun _ h9 => h9) rfl (by decide +kernel) rfl rfl (Nat.le_of_ble_eq_true rfl) dWR_bit_106 (fun H locs hP hD hS => ?_)
            have hP : va_P (dC, dI) vwCl [(wr, .inr (7, [.int (nI σ.1), .ref br, .ref bg, .int (nI (σ.2.2.1 + 1)), .int (bI ms), .int (nI 0), .int (nI 7)])), (br, .inr (0, [.ref row, .int (nI bz)])), (row, .inl (cI, 6000, .inl (fun j => nI (σ.2.1 j))))] H := hP
            have hD : va_D A [(wr, .inr (7, [.int (nI σ.1), .ref br, .ref bg, .int (nI (σ.2.2.1 + 1)), .int (bI ms), .int (nI 0), .int (nI 7)])), (br, .inr (0, [.ref row, .int (nI bz)])), (row, .inl (cI, 6000, .inl (fun j => nI (σ.2.1 j))))] := hD
            refine lv_iload_n hx hb dWR_bit_109 rfl (lv_at hl 1 rfl) ?_
            exact hret _ () _ _ _ _ dWR_bit_110 rfl (by unfold bitW m_wb; first | (rw [if_neg (show ¬ σ.2.2.2.2 - 1 = 0 from by omega)]; exact hP) | (rw [if_pos (show σ.2.2.2.2 - 1 = 0 from c_37)]; (first | rw [if_pos (show ms = false ∧ σ.2.2.1 < 6000 from ⟨c_44, c_54⟩)] | rw [if_neg (show ¬ (ms = false ∧ σ.2.2.1 < 6000) from fun h => by omega)] | rw [if_neg (show ¬ (ms = false ∧ σ.2.2.1 < 6000) from fun h => by rw [h.1] at c_44; cases c_44)]); (first | rw [if_pos (show m_wc σ.2.2.2.1 σ.2.2.2.2 d = 255 from c_91)] | rw [if_neg (show ¬ m_wc σ.2.2.2.1 σ.2.2.2.2 d = 255 from c_91)]); exact hP)) hS
        · refine lv_aload_n hx hb dWR_bit_57 rfl (lv_at hl 0 rfl) ?_
          refine va_get (D := (dC, dI)) (ci := 7) (v := .ref br) (C := "PacketRows$Writer") (T := TWR) (N := 7) hx hb hts inWR hown hK hP 0 rfl rfl 1 (by decide) (hU hts u_246) (fun _ h9 => h9) rfl dWR_bit_58 ?_
          refine va_get (D := (dC, dI)) (ci := 0) (v := .ref row) (C := "PacketRows$ByteRow") (T := TBR) (N := 2) hx hb hts inBR hown hK hP 1 rfl rfl 0 (by decide) (hU hts u_227) (fun _ h9 => h9) rfl dWR_bit_61 ?_
          refine lv_aload_n hx hb dWR_bit_64 rfl (lv_at hl 0 rfl) ?_
          refine va_get (D := (dC, dI)) (ci := 7) (v := .int (nI σ.2.2.1)) (C := "PacketRows$Writer") (T := TWR) (N := 7) hx hb hts inWR hown hK hP 0 rfl rfl 3 (by decide) (hU hts u_249) (fun _ h9 => h9) rfl dWR_bit_65 ?_
          refine lv_aload_n hx hb dWR_bit_68 rfl (lv_at hl 0 rfl) ?_
          refine va_get (D := (dC, dI)) (ci := 7) (v := .int (nI (m_wc σ.2.2.2.1 σ.2.2.2.2 d))) (C := "PacketRows$Writer") (T := TWR) (N := 7) hx hb hts inWR hown hK hP 0 rfl rfl 5 (by decide) (hU hts u_252) (fun _ h9 => h9) rfl dWR_bit_69 ?_
          refine qi_ast hx hb hK hP hD hS 2 0 rfl rfl (k := σ.2.2.1) (v := m_wc σ.2.2.2.1 σ.2.2.2.2 d) (by omega) (by omega) dWR_bit_72 (fun H locs hP hD hS => ?_)
          have hP : va_P (dC, dI) vwCl [(wr, .inr (7, [.int (nI σ.1), .ref br, .ref bg, .int (nI σ.2.2.1), .int (bI ms), .int (nI (m_wc σ.2.2.2.1 σ.2.2.2.2 d)), .int (nI (σ.2.2.2.2 - 1))])), (br, .inr (0, [.ref row, .int (nI bz)])), (row, .inl (cI, 6000, .inl (fun j => nI ((va_up σ.2.1 σ.2.2.1 (m_wc σ.2.2.2.1 σ.2.2.2.2 d)) j))))] H := hP
          have hD : va_D A [(wr, .inr (7, [.int (nI σ.1), .ref br, .ref bg, .int (nI σ.2.2.1), .int (bI ms), .int (nI (m_wc σ.2.2.2.1 σ.2.2.2.2 d)), .int (nI (σ.2.2.2.2 - 1))])), (br, .inr (0, [.ref row, .int (nI bz)])), (row, .inl (cI, 6000, .inl (fun j => nI ((va_up σ.2.1 σ.2.2.1 (m_wc σ.2.2.2.1 σ.2.2.2.2 d)) j))))] := hD
          refine lv_aload_n hx hb dWR_bit_73 rfl (lv_at hl 0 rfl) ?_
          refine lv_dup hx hb dWR_bit_74 rfl ?_
          refine va_get (D := (dC, dI)) (ci := 7) (v := .int (nI σ.2.2.1)) (C := "PacketRows$Writer") (T := TWR) (N := 7) hx hb hts inWR hown hK hP 0 rfl rfl 3 (by decide) (hU hts u_249) (fun _ h9 => h9) rfl dWR_bit_75 ?_
          refine lv_iconst (v := nI 1) hx hb dWR_bit_78 (by decide +kernel) ?_
          refine qn_iadd hx hb dWR_bit_79 ?_
          refine va_put (D := (dC, dI)) (ci := 7) (v := .int (nI (σ.2.2.1 + 1))) (ty := .int) (C := "PacketRows$Writer") (T := TWR) (N := 7) hx hb hts inWR tyWR tyWR_ok nmWR hown hK hP hD hS 0 rfl rfl 3 (by decide) (hU hts u_249) (fun _ h9 => h9) rfl (by decide +kernel) rfl rfl (Nat.le_of_ble_eq_true rfl) dWR_bit_80 (fun H locs hP hD hS => ?_)
          have hP : va_P (dC, dI) vwCl [(wr, .inr (7, [.int (nI σ.1), .ref br, .ref bg, .int (nI (σ.2.2.1 + 1)), .int (bI ms), .int (nI (m_wc σ.2.2.2.1 σ.2.2.2.2 d)), .int (nI (σ.2.2.2.2 - 1))])), (br, .inr (0, [.ref row, .int (nI bz)])), (row, .inl (cI, 6000, .inl (fun j => nI ((va_up σ.2.1 σ.2.2.1 (m_wc σ.2.2.2.1 σ.2.2.2.2 d)) j))))] H := hP
          have hD : va_D A [(wr, .inr (7, [.int (nI σ.1), .ref br, .ref bg, .int (nI (σ.2.2.1 + 1)), .int (bI ms), .int (nI (m_wc σ.2.2.2.1 σ.2.2.2.2 d)), .int (nI (σ.2.2.2.2 - 1))])), (br, .inr (0, [.ref row, .int (nI bz)])), (row, .inl (cI, 6000, .inl (fun j => nI ((va_up σ.2.1 σ.2.2.1 (m_wc σ.2.2.2.1 σ.2.2.2.2 d)) j))))] := hD
          refine lv_aload_n hx hb dWR_bit_83 rfl (lv_at hl 0 rfl) ?_
          refine lv_aload_n hx hb dWR_bit_84 rfl (lv_at hl 0 rfl) ?_
          refine va_get (D := (dC, dI)) (ci := 7) (v := .int (nI (m_wc σ.2.2.2.1 σ.2.2.2.2 d))) (C := "PacketRows$Writer") (T := TWR) (N := 7) hx hb hts inWR hown hK hP 0 rfl rfl 5 (by decide) (hU hts u_252) (fun _ h9 => h9) rfl dWR_bit_85 ?_
          refine lv_sipush (v := nI 255) hx hb dWR_bit_88 (by decide +kernel) ?_
          refine qn_cne (tgt := 99) hx hb dWR_bit_91 (by decide) (by have := m_wc_lt (d := d) h3 h2; omega) (by omega) (fun c_91 => ?_) (fun c_91 => ?_)
          · refine lv_bipush (v := nI 8) hx hb dWR_bit_99 (by decide +kernel) ?_
            refine va_put (D := (dC, dI)) (ci := 7) (v := .int (nI 8)) (ty := .int) (C := "PacketRows$Writer") (T := TWR) (N := 7) hx hb hts inWR tyWR tyWR_ok nmWR hown hK hP hD hS 0 rfl rfl 6 (by decide) (hU hts u_253) (fun _ h9 => h9) rfl (by decide +kernel) rfl rfl (Nat.le_of_ble_eq_true rfl) dWR_bit_101 (fun H locs hP hD hS => ?_)
            have hP : va_P (dC, dI) vwCl [(wr, .inr (7, [.int (nI σ.1), .ref br, .ref bg, .int (nI (σ.2.2.1 + 1)), .int (bI ms), .int (nI (m_wc σ.2.2.2.1 σ.2.2.2.2 d)), .int (nI 8)])), (br, .inr (0, [.ref row, .int (nI bz)])), (row, .inl (cI, 6000, .inl (fun j => nI ((va_up σ.2.1 σ.2.2.1 (m_wc σ.2.2.2.1 σ.2.2.2.2 d)) j))))] H := hP
            have hD : va_D A [(wr, .inr (7, [.int (nI σ.1), .ref br, .ref bg, .int (nI (σ.2.2.1 + 1)), .int (bI ms), .int (nI (m_wc σ.2.2.2.1 σ.2.2.2.2 d)), .int (nI 8)])), (br, .inr (0, [.ref row, .int (nI bz)])), (row, .inl (cI, 6000, .inl (fun j => nI ((va_up σ.2.1 σ.2.2.1 (m_wc σ.2.2.2.1 σ.2.2.2.2 d)) j))))] := hD
            refine lv_aload_n hx hb dWR_bit_104 rfl (lv_at hl 0 rfl) ?_
            refine lv_iconst (v := nI 0) hx hb dWR_bit_105 (by decide +kernel) ?_
            refine va_put (D := (dC, dI)) (ci := 7) (v := .int (nI 0)) (ty := .int) (C := "PacketRows$Writer") (T := TWR) (N := 7) hx hb hts inWR tyWR tyWR_ok nmWR hown hK hP hD hS 0 rfl rfl 5 (by decide) (hU hts u_252) (fun _ h9 => h9) rfl (by decide +kernel) rfl rfl (Nat.le_of_ble_eq_true rfl) dWR_bit_106 (fun H locs hP hD hS => ?_)
            have hP : va_P (dC, dI) vwCl [(wr, .inr (7, [.int (nI σ.1), .ref br, .ref bg, .int (nI (σ.2.2.1 + 1)), .int (bI ms), .int (nI 0), .int (nI 8)])), (br, .inr (0, [.ref row, .int (nI bz)])), (row, .inl (cI, 6000, .inl (fun j => nI ((va_up σ.2.1 σ.2.2.1 (m_wc σ.2.2.2.1 σ.2.2.2.2 d)) j))))] H := hP
            have hD : va_D A [(wr, .inr (7, [.int (nI σ.1), .ref br, .ref bg, .int (nI (σ.2.2.1 + 1)), .int (bI ms), .int (nI 0), .int (nI 8)])), (br, .inr (0, [.ref row, .int (nI bz)])), (row, .inl (cI, 6000, .inl (fun j => nI ((va_up σ.2.1 σ.2.2.1 (m_wc σ.2.2.2.1 σ.2.2.2.2 d)) j))))] := hD
            refine lv_iload_n hx hb dWR_bit_109 rfl (lv_at hl 1 rfl) ?_
            exact hret _ () _ _ _ _ dWR_bit_110 rfl (by unfold bitW m_wb; first | (rw [if_neg (show ¬ σ.2.2.2.2 - 1 = 0 from by omega)]; exact hP) | (rw [if_pos (show σ.2.2.2.2 - 1 = 0 from c_37)]; (first | rw [if_pos (show ms = false ∧ σ.2.2.1 < 6000 from ⟨c_44, c_54⟩)] | rw [if_neg (show ¬ (ms = false ∧ σ.2.2.1 < 6000) from fun h => by omega)] | rw [if_neg (show ¬ (ms = false ∧ σ.2.2.1 < 6000) from fun h => by rw [h.1] at c_44; cases c_44)]); (first | rw [if_pos (show m_wc σ.2.2.2.1 σ.2.2.2.2 d = 255 from c_91)] | rw [if_neg (show ¬ m_wc σ.2.2.2.1 σ.2.2.2.2 d = 255 from c_91)]); exact hP)) hS
          · refine lv_bipush (v := nI 7) hx hb dWR_bit_94 (by decide +kernel) ?_
            refine lv_goto (tgt := 101) hx hb dWR_bit_96 (by decide) ?_
            refine va_put (D := (dC, dI)) (ci := 7) (v := .int (nI 7)) (ty := .int) (C := "PacketRows$Writer") (T := TWR) (N := 7) hx hb hts inWR tyWR tyWR_ok nmWR hown hK hP hD hS 0 rfl rfl 6 (by decide) (hU hts u_253) (fun _ h9 => h9) rfl (by decide +kernel) rfl rfl (Nat.le_of_ble_eq_true rfl) dWR_bit_101 (fun H locs hP hD hS => ?_)
            have hP : va_P (dC, dI) vwCl [(wr, .inr (7, [.int (nI σ.1), .ref br, .ref bg, .int (nI (σ.2.2.1 + 1)), .int (bI ms), .int (nI (m_wc σ.2.2.2.1 σ.2.2.2.2 d)), .int (nI 7)])), (br, .inr (0, [.ref row, .int (nI bz)])), (row, .inl (cI, 6000, .inl (fun j => nI ((va_up σ.2.1 σ.2.2.1 (m_wc σ.2.2.2.1 σ.2.2.2.2 d)) j))))] H := hP
            have hD : va_D A [(wr, .inr (7, [.int (nI σ.1), .ref br, .ref bg, .int (nI (σ.2.2.1 + 1)), .int (bI ms), .int (nI (m_wc σ.2.2.2.1 σ.2.2.2.2 d)), .int (nI 7)])), (br, .inr (0, [.ref row, .int (nI bz)])), (row, .inl (cI, 6000, .inl (fun j => nI ((va_up σ.2.1 σ.2.2.1 (m_wc σ.2.2.2.1 σ.2.2.2.2 d)) j))))] := hD
            refine lv_aload_n hx hb dWR_bit_104 rfl (lv_at hl 0 rfl) ?_
            refine lv_iconst (v := nI 0) hx hb dWR_bit_105 (by decide +kernel) ?_
            refine va_put (D := (dC, dI)) (ci := 7) (v := .int (nI 0)) (ty := .int) (C := "PacketRows$Writer") (T := TWR) (N := 7) hx hb hts inWR tyWR tyWR_ok nmWR hown hK hP hD hS 0 rfl rfl 5 (by decide) (hU hts u_252) (fun _ h9 => h9) rfl (by decide +kernel) rfl rfl (Nat.le_of_ble_eq_true rfl) dWR_bit_106 (fun H locs hP hD hS => ?_)
            have hP : va_P (dC, dI) vwCl [(wr, .inr (7, [.int (nI σ.1), .ref br, .ref bg, .int (nI (σ.2.2.1 + 1)), .int (bI ms), .int (nI 0), .int (nI 7)])), (br, .inr (0, [.ref row, .int (nI bz)])), (row, .inl (cI, 6000, .inl (fun j => nI ((va_up σ.2.1 σ.2.2.1 (m_wc σ.2.2.2.1 σ.2.2.2.2 d)) j))))] H := hP
            have hD : va_D A [(wr, .inr (7, [.int (nI σ.1), .ref br, .ref bg, .int (nI (σ.2.2.1 + 1)), .int (bI ms), .int (nI 0), .int (nI 7)])), (br, .inr (0, [.ref row, .int (nI bz)])), (row, .inl (cI, 6000, .inl (fun j => nI ((va_up σ.2.1 σ.2.2.1 (m_wc σ.2.2.2.1 σ.2.2.2.2 d)) j))))] := hD
            refine lv_iload_n hx hb dWR_bit_109 rfl (lv_at hl 1 rfl) ?_
            exact hret _ () _ _ _ _ dWR_bit_110 rfl (by unfold bitW m_wb; first | (rw [if_neg (show ¬ σ.2.2.2.2 - 1 = 0 from by omega)]; exact hP) | (rw [if_pos (show σ.2.2.2.2 - 1 = 0 from c_37)]; (first | rw [if_pos (show ms = false ∧ σ.2.2.1 < 6000 from ⟨c_44, c_54⟩)] | rw [if_neg (show ¬ (ms = false ∧ σ.2.2.1 < 6000) from fun h => by omega)] | rw [if_neg (show ¬ (ms = false ∧ σ.2.2.1 < 6000) from fun h => by rw [h.1] at c_44; cases c_44)]); (first | rw [if_pos (show m_wc σ.2.2.2.1 σ.2.2.2.2 d = 255 from c_91)] | rw [if_neg (show ¬ m_wc σ.2.2.2.1 σ.2.2.2.2 d = 255 from c_91)]); exact hP)) hS
  refine qb_ieq (tgt := 23) hx hb dWR_bit_16 (by decide) (fun c_16 => ?_) (fun c_16 => ?_)
  · refine lv_iconst (v := nI 0) hx hb dWR_bit_23 (by decide +kernel) ?_
    exact qn_eq (by rw [c_16]; rfl) jn_24
  · refine lv_iconst (v := nI 1) hx hb dWR_bit_19 (by decide +kernel) ?_
    refine lv_goto (tgt := 24) hx hb dWR_bit_20 (by decide) ?_
    exact qn_eq (by rw [c_16]; rfl) jn_24
set_option maxHeartbeats 4000000 in
set_option maxRecDepth 100000 in
theorem k_Reader_start (l : Launch) (dC : Nat → ClassId) (dI : Nat → Nat → Nat) (cI cZ cL : ClassId) (rd br row bz : Nat) (f : Nat → Nat) (σ : rS)  :
    q_CV l (dC, dI) vwCl (tyL cI cZ cL) yRD_start wsRD_start (rmD 0) [.ref rd] [(rd, .inr (4, [.int (nI σ.1), .ref br, .int (nI σ.2.1), .int (nI σ.2.2.1), .int (nI σ.2.2.2)])), (br, .inr (0, [.ref row, .int (nI bz)])), (row, .inl (cI, 6000, .inl (fun j => nI (f j))))] (fun (_ : Unit) => True) (fun (_ : Unit) => [(rd, .inr (4, [.int (nI 0), .ref br, .int (nI 0), .int (nI σ.2.2.1), .int (nI σ.2.2.2)])), (br, .inr (0, [.ref row, .int (nI bz)])), (row, .inl (cI, 6000, .inl (fun j => nI (f j))))]) := by
  refine q_entV "PacketRows$Reader" (by decide) rfl rfl (Nat.le_of_ble_eq_true rfl) ?_
  intro p e s m below meth c ls Q A hx hb hml hts hown hP hD hK hZ hO hA hS hl hret
  have hl : lv_has ls 1 [(0, .ref rd)] := hl
  refine lv_aload_n hx hb dRD_start_0 rfl (lv_at hl 0 rfl) ?_
  refine lv_iconst (v := nI 0) hx hb dRD_start_1 (by decide +kernel) ?_
  refine va_put (D := (dC, dI)) (ci := 4) (v := .int (nI 0)) (ty := .int) (C := "PacketRows$Reader") (T := TRD) (N := 5) hx hb hts inRD tyRD tyRD_ok nmRD hown hK hP hD hS 0 rfl rfl 0 (by decide) (hU hts u_254) (fun x9 h9 => u_same (hU hts u_255) x9 h9) rfl (by decide +kernel) rfl rfl (Nat.le_of_ble_eq_true rfl) dRD_start_2 (fun H locs hP hD hS => ?_)
  have hP : va_P (dC, dI) vwCl [(rd, .inr (4, [.int (nI 0), .ref br, .int (nI σ.2.1), .int (nI σ.2.2.1), .int (nI σ.2.2.2)])), (br, .inr (0, [.ref row, .int (nI bz)])), (row, .inl (cI, 6000, .inl (fun j => nI (f j))))] H := hP
  have hD : va_D A [(rd, .inr (4, [.int (nI 0), .ref br, .int (nI σ.2.1), .int (nI σ.2.2.1), .int (nI σ.2.2.2)])), (br, .inr (0, [.ref row, .int (nI bz)])), (row, .inl (cI, 6000, .inl (fun j => nI (f j))))] := hD
  refine lv_aload_n hx hb dRD_start_5 rfl (lv_at hl 0 rfl) ?_
  refine lv_iconst (v := nI 0) hx hb dRD_start_6 (by decide +kernel) ?_
  refine va_put (D := (dC, dI)) (ci := 4) (v := .int (nI 0)) (ty := .int) (C := "PacketRows$Reader") (T := TRD) (N := 5) hx hb hts inRD tyRD tyRD_ok nmRD hown hK hP hD hS 0 rfl rfl 2 (by decide) (hU hts u_281) (fun _ h9 => h9) rfl (by decide +kernel) rfl rfl (Nat.le_of_ble_eq_true rfl) dRD_start_7 (fun H locs hP hD hS => ?_)
  have hP : va_P (dC, dI) vwCl [(rd, .inr (4, [.int (nI 0), .ref br, .int (nI 0), .int (nI σ.2.2.1), .int (nI σ.2.2.2)])), (br, .inr (0, [.ref row, .int (nI bz)])), (row, .inl (cI, 6000, .inl (fun j => nI (f j))))] H := hP
  have hD : va_D A [(rd, .inr (4, [.int (nI 0), .ref br, .int (nI 0), .int (nI σ.2.2.1), .int (nI σ.2.2.2)])), (br, .inr (0, [.ref row, .int (nI bz)])), (row, .inl (cI, 6000, .inl (fun j => nI (f j))))] := hD
  exact hret () _ _ _ _ dRD_start_10 trivial hP hS
set_option maxHeartbeats 4000000 in
set_option maxRecDepth 100000 in
theorem k_Reader_beginHead (l : Launch) (dC : Nat → ClassId) (dI : Nat → Nat → Nat) (cI cZ cL : ClassId) (rd br row bz : Nat) (f : Nat → Nat) (σ : rS) (k : Nat)  :
    q_CV l (dC, dI) vwCl (tyL cI cZ cL) yRD_beginHead wsRD_beginHead (rmD 0) [.ref rd, .int (nI k)] [(rd, .inr (4, [.int (nI σ.1), .ref br, .int (nI σ.2.1), .int (nI σ.2.2.1), .int (nI σ.2.2.2)])), (br, .inr (0, [.ref row, .int (nI bz)])), (row, .inl (cI, 6000, .inl (fun j => nI (f j))))] (fun (_ : Unit) => True) (fun (_ : Unit) => [(rd, .inr (4, [.int (nI ((t_rbeg σ).1)), .ref br, .int (nI ((t_rbeg σ).2.1)), .int (nI ((t_rbeg σ).2.2.1)), .int (nI ((t_rbeg σ).2.2.2))])), (br, .inr (0, [.ref row, .int (nI bz)])), (row, .inl (cI, 6000, .inl (fun j => nI (f j))))]) := by
  refine q_entV "PacketRows$Reader" (by decide) rfl rfl (Nat.le_of_ble_eq_true rfl) ?_
  intro p e s m below meth c ls Q A hx hb hml hts hown hP hD hK hZ hO hA hS hl hret
  have hl : lv_has ls 2 [(0, .ref rd), (1, .int (nI k))] := hl
  refine lv_aload_n hx hb dRD_beginHead_0 rfl (lv_at hl 0 rfl) ?_
  refine lv_iconst (v := nI 0) hx hb dRD_beginHead_1 (by decide +kernel) ?_
  refine va_put (D := (dC, dI)) (ci := 4) (v := .int (nI 0)) (ty := .int) (C := "PacketRows$Reader") (T := TRD) (N := 5) hx hb hts inRD tyRD tyRD_ok nmRD hown hK hP hD hS 0 rfl rfl 3 (by decide) (hU hts u_283) (fun _ h9 => h9) rfl (by decide +kernel) rfl rfl (Nat.le_of_ble_eq_true rfl) dRD_beginHead_2 (fun H locs hP hD hS => ?_)
  have hP : va_P (dC, dI) vwCl [(rd, .inr (4, [.int (nI σ.1), .ref br, .int (nI σ.2.1), .int (nI 0), .int (nI σ.2.2.2)])), (br, .inr (0, [.ref row, .int (nI bz)])), (row, .inl (cI, 6000, .inl (fun j => nI (f j))))] H := hP
  have hD : va_D A [(rd, .inr (4, [.int (nI σ.1), .ref br, .int (nI σ.2.1), .int (nI 0), .int (nI σ.2.2.2)])), (br, .inr (0, [.ref row, .int (nI bz)])), (row, .inl (cI, 6000, .inl (fun j => nI (f j))))] := hD
  refine lv_aload_n hx hb dRD_beginHead_5 rfl (lv_at hl 0 rfl) ?_
  refine lv_iconst (v := nI 0) hx hb dRD_beginHead_6 (by decide +kernel) ?_
  refine va_put (D := (dC, dI)) (ci := 4) (v := .int (nI 0)) (ty := .int) (C := "PacketRows$Reader") (T := TRD) (N := 5) hx hb hts inRD tyRD tyRD_ok nmRD hown hK hP hD hS 0 rfl rfl 4 (by decide) (hU hts u_284) (fun _ h9 => h9) rfl (by decide +kernel) rfl rfl (Nat.le_of_ble_eq_true rfl) dRD_beginHead_7 (fun H locs hP hD hS => ?_)
  have hP : va_P (dC, dI) vwCl [(rd, .inr (4, [.int (nI σ.1), .ref br, .int (nI σ.2.1), .int (nI 0), .int (nI 0)])), (br, .inr (0, [.ref row, .int (nI bz)])), (row, .inl (cI, 6000, .inl (fun j => nI (f j))))] H := hP
  have hD : va_D A [(rd, .inr (4, [.int (nI σ.1), .ref br, .int (nI σ.2.1), .int (nI 0), .int (nI 0)])), (br, .inr (0, [.ref row, .int (nI bz)])), (row, .inl (cI, 6000, .inl (fun j => nI (f j))))] := hD
  exact hret () _ _ _ _ dRD_beginHead_10 trivial hP hS
set_option maxHeartbeats 4000000 in
set_option maxRecDepth 100000 in
theorem k_Reader_bit (l : Launch) (dC : Nat → ClassId) (dI : Nat → Nat → Nat) (cI cZ cL : ClassId) (rd br row bz : Nat) (f : Nat → Nat) (σ : rS) (d : Bool) (hok : okR bz σ) (hbz : bz ≤ 6000) (hf5 : ∀ j, f j < 256) :
    q_CI l (dC, dI) vwCl (tyL cI cZ cL) yRD_bit wsRD_bit (rmD 0) [.ref rd, .int (bI d)] [(rd, .inr (4, [.int (nI σ.1), .ref br, .int (nI σ.2.1), .int (nI σ.2.2.1), .int (nI σ.2.2.2)])), (br, .inr (0, [.ref row, .int (nI bz)])), (row, .inl (cI, 6000, .inl (fun j => nI (f j))))] (fun (z : Int32) (_ : Unit) => z = bI ((bitR f bz σ false).1)) (fun (_ : Unit) => [(rd, .inr (4, [.int (nI ((bitR f bz σ false).2.1)), .ref br, .int (nI ((bitR f bz σ false).2.2.1)), .int (nI ((bitR f bz σ false).2.2.2.1)), .int (nI ((bitR f bz σ false).2.2.2.2))])), (br, .inr (0, [.ref row, .int (nI bz)])), (row, .inl (cI, 6000, .inl (fun j => nI (f j))))]) := by
  refine q_entI "PacketRows$Reader" (by decide) rfl (fun r u h => by rw [h]; exact bI_nb _) rfl (Nat.le_of_ble_eq_true rfl) ?_
  intro p e s m below meth c ls Q A hx hb hml hts hown hP hD hK hZ hO hA hS hl hret
  have hl : lv_has ls 3 [(0, .ref rd), (1, .int (bI d))] := hl
  have h1 := hok.1
  have h2 := hok.2.1
  have h4 := hok.2.2.1
  have h6 := hok.2.2.2
  refine lv_aload_n hx hb dRD_bit_0 rfl (lv_at hl 0 rfl) ?_
  refine va_get (D := (dC, dI)) (ci := 4) (v := .int (nI σ.1)) (C := "PacketRows$Reader") (T := TRD) (N := 5) hx hb hts inRD hown hK hP 0 rfl rfl 0 (by decide) (hU hts u_254) (fun x9 h9 => u_same (hU hts u_255) x9 h9) rfl dRD_bit_1 ?_
  refine qn_ine (tgt := 122) hx hb dRD_bit_4 (by decide) (by omega) (fun c_4 => ?_) (fun c_4 => ?_)
  · refine lv_aload_n hx hb dRD_bit_122 rfl (lv_at hl 0 rfl) ?_
    refine va_get (D := (dC, dI)) (ci := 4) (v := .int (nI σ.1)) (C := "PacketRows$Reader") (T := TRD) (N := 5) hx hb hts inRD hown hK hP 0 rfl rfl 0 (by decide) (hU hts u_254) (fun x9 h9 => u_same (hU hts u_255) x9 h9) rfl dRD_bit_123 ?_
    refine qn_ieq (tgt := 131) hx hb dRD_bit_126 (by decide) (by omega) (fun c_126 => ?_) (fun c_126 => ?_)
    · exact absurd c_126 (by omega)
    · refine lv_iconst (v := nI 0) hx hb dRD_bit_129 (by decide +kernel) ?_
      exact hret _ () _ _ _ _ dRD_bit_130 (by unfold bitR m_rb m_rf; first | (rw [if_pos (show σ.1 = 0 ∧ σ.2.2.2 = 0 from ⟨c_4, c_11⟩), if_pos (show bz ≤ σ.2.1 from c_41)]; rfl) | (rw [if_pos (show σ.1 = 0 ∧ σ.2.2.2 = 0 from ⟨c_4, c_11⟩), if_neg (show ¬ bz ≤ σ.2.1 from by omega), if_pos (show σ.2.2.1 = 255 ∧ 127 < f σ.2.1 from ⟨of_decide_eq_true c_53, c_70⟩)]; rfl) | (rw [if_neg (show ¬ (σ.1 = 0 ∧ σ.2.2.2 = 0) from fun h => by omega), if_neg (show ¬ σ.1 = 0 from by omega)]; rfl)) (by unfold bitR m_rb m_rf; first | (rw [if_pos (show σ.1 = 0 ∧ σ.2.2.2 = 0 from ⟨c_4, c_11⟩), if_pos (show bz ≤ σ.2.1 from c_41)]; exact hP) | (rw [if_pos (show σ.1 = 0 ∧ σ.2.2.2 = 0 from ⟨c_4, c_11⟩), if_neg (show ¬ bz ≤ σ.2.1 from by omega), if_pos (show σ.2.2.1 = 255 ∧ 127 < f σ.2.1 from ⟨of_decide_eq_true c_53, c_70⟩)]; exact hP) | (rw [if_neg (show ¬ (σ.1 = 0 ∧ σ.2.2.2 = 0) from fun h => by omega), if_neg (show ¬ σ.1 = 0 from by omega)]; exact hP)) hS
  · refine lv_aload_n hx hb dRD_bit_7 rfl (lv_at hl 0 rfl) ?_
    refine va_get (D := (dC, dI)) (ci := 4) (v := .int (nI σ.2.2.2)) (C := "PacketRows$Reader") (T := TRD) (N := 5) hx hb hts inRD hown hK hP 0 rfl rfl 4 (by decide) (hU hts u_284) (fun _ h9 => h9) rfl dRD_bit_8 ?_
    refine qn_ine (tgt := 122) hx hb dRD_bit_11 (by decide) (by omega) (fun c_11 => ?_) (fun c_11 => ?_)
    · refine lv_aload_n hx hb dRD_bit_122 rfl (lv_at hl 0 rfl) ?_
      refine va_get (D := (dC, dI)) (ci := 4) (v := .int (nI σ.1)) (C := "PacketRows$Reader") (T := TRD) (N := 5) hx hb hts inRD hown hK hP 0 rfl rfl 0 (by decide) (hU hts u_254) (fun x9 h9 => u_same (hU hts u_255) x9 h9) rfl dRD_bit_123 ?_
      refine qn_ieq (tgt := 131) hx hb dRD_bit_126 (by decide) (by omega) (fun c_126 => ?_) (fun c_126 => ?_)
      · refine lv_aload_n hx hb dRD_bit_131 rfl (lv_at hl 0 rfl) ?_
        refine lv_dup hx hb dRD_bit_132 rfl ?_
        refine va_get (D := (dC, dI)) (ci := 4) (v := .int (nI σ.2.2.2)) (C := "PacketRows$Reader") (T := TRD) (N := 5) hx hb hts inRD hown hK hP 0 rfl rfl 4 (by decide) (hU hts u_284) (fun _ h9 => h9) rfl dRD_bit_133 ?_
        refine lv_iconst (v := nI 1) hx hb dRD_bit_136 (by decide +kernel) ?_
        refine qn_isub hx hb dRD_bit_137 (by first | omega | (unfold m_rl; split <;> omega)) ?_
        refine va_put (D := (dC, dI)) (ci := 4) (v := .int (nI (σ.2.2.2 - 1))) (ty := .int) (C := "PacketRows$Reader") (T := TRD) (N := 5) hx hb hts inRD tyRD tyRD_ok nmRD hown hK hP hD hS 0 rfl rfl 4 (by decide) (hU hts u_284) (fun _ h9 => h9) rfl (by decide +kernel) rfl rfl (Nat.le_of_ble_eq_true rfl) dRD_bit_138 (fun H locs hP hD hS => ?_)
        have hP : va_P (dC, dI) vwCl [(rd, .inr (4, [.int (nI σ.1), .ref br, .int (nI σ.2.1), .int (nI σ.2.2.1), .int (nI (σ.2.2.2 - 1))])), (br, .inr (0, [.ref row, .int (nI bz)])), (row, .inl (cI, 6000, .inl (fun j => nI (f j))))] H := hP
        have hD : va_D A [(rd, .inr (4, [.int (nI σ.1), .ref br, .int (nI σ.2.1), .int (nI σ.2.2.1), .int (nI (σ.2.2.2 - 1))])), (br, .inr (0, [.ref row, .int (nI bz)])), (row, .inl (cI, 6000, .inl (fun j => nI (f j))))] := hD
        refine lv_aload_n hx hb dRD_bit_141 rfl (lv_at hl 0 rfl) ?_
        refine va_get (D := (dC, dI)) (ci := 4) (v := .int (nI σ.2.2.1)) (C := "PacketRows$Reader") (T := TRD) (N := 5) hx hb hts inRD hown hK hP 0 rfl rfl 3 (by decide) (hU hts u_283) (fun _ h9 => h9) rfl dRD_bit_142 ?_
        refine lv_aload_n hx hb dRD_bit_145 rfl (lv_at hl 0 rfl) ?_
        refine va_get (D := (dC, dI)) (ci := 4) (v := .int (nI (σ.2.2.2 - 1))) (C := "PacketRows$Reader") (T := TRD) (N := 5) hx hb hts inRD hown hK hP 0 rfl rfl 4 (by decide) (hU hts u_284) (fun _ h9 => h9) rfl dRD_bit_146 ?_
        refine qn_ishr hx hb dRD_bit_149 (by first | omega | (have := hf5 σ.2.1; omega)) (by first | omega | (unfold m_rl; split <;> omega)) ?_
        refine lv_iconst (v := nI 1) hx hb dRD_bit_150 (by decide +kernel) ?_
        refine qn_iand hx hb dRD_bit_151 ?_
        refine lv_iconst (v := nI 1) hx hb dRD_bit_152 (by decide +kernel) ?_
        have jn_161 : W p l e (headSpec wsRD_bit (rmD 0)).room s m [.ref rd, .int (bI d)].toArray below meth c H locs 0 0 Q (F0 m 161 ls [.int (bI (decide ((σ.2.2.1 / 2 ^ (σ.2.2.2 - 1)) &&& 1 = 1)))]) := by
          exact hret _ () _ _ _ _ dRD_bit_161 (by unfold bitR m_rb m_rf; first | (rw [if_pos (show σ.1 = 0 ∧ σ.2.2.2 = 0 from ⟨c_4, c_11⟩), if_neg (show ¬ bz ≤ σ.2.1 from by omega), if_neg (show ¬ (σ.2.2.1 = 255 ∧ 127 < f σ.2.1) from fun h => by first | omega | exact absurd h.1 (of_decide_eq_false c_53)), if_pos (show σ.1 = 0 from c_4)]; try rfl) | (rw [if_neg (show ¬ (σ.1 = 0 ∧ σ.2.2.2 = 0) from fun h => by omega), if_pos (show σ.1 = 0 from c_4)]; try rfl)) (by unfold bitR m_rb m_rf; first | (rw [if_pos (show σ.1 = 0 ∧ σ.2.2.2 = 0 from ⟨c_4, c_11⟩), if_neg (show ¬ bz ≤ σ.2.1 from by omega), if_neg (show ¬ (σ.2.2.1 = 255 ∧ 127 < f σ.2.1) from fun h => by first | omega | exact absurd h.1 (of_decide_eq_false c_53)), if_pos (show σ.1 = 0 from c_4)]; exact hP) | (rw [if_neg (show ¬ (σ.1 = 0 ∧ σ.2.2.2 = 0) from fun h => by omega), if_pos (show σ.1 = 0 from c_4)]; exact hP)) hS
        refine qn_cne (tgt := 160) hx hb dRD_bit_153 (by decide) (Nat.lt_of_le_of_lt Nat.and_le_right (by omega)) (by omega) (fun c_153 => ?_) (fun c_153 => ?_)
        · refine lv_iconst (v := nI 0) hx hb dRD_bit_160 (by decide +kernel) ?_
          exact qn_eq (by rw [decide_eq_false (by first | exact c_153 | exact Int32.not_lt.mpr c_153 | exact Int32.not_le.mpr c_153 | omega)]; rfl) jn_161
        · refine lv_iconst (v := nI 1) hx hb dRD_bit_156 (by decide +kernel) ?_
          refine lv_goto (tgt := 161) hx hb dRD_bit_157 (by decide) ?_
          exact qn_eq (by rw [decide_eq_true (by first | exact c_153 | exact Int32.not_le.mp c_153 | exact Int32.not_lt.mp c_153 | omega)]; rfl) jn_161
      · exact absurd c_126 (by omega)
    · refine lv_aload_n hx hb dRD_bit_14 rfl (lv_at hl 0 rfl) ?_
      refine va_get (D := (dC, dI)) (ci := 4) (v := .int (nI σ.2.2.1)) (C := "PacketRows$Reader") (T := TRD) (N := 5) hx hb hts inRD hown hK hP 0 rfl rfl 3 (by decide) (hU hts u_283) (fun _ h9 => h9) rfl dRD_bit_15 ?_
      refine lv_sipush (v := nI 255) hx hb dRD_bit_18 (by decide +kernel) ?_
      have jn_29 : W p l e (headSpec wsRD_bit (rmD 0)).room s m [.ref rd, .int (bI d)].toArray below meth c s.heap [] 0 0 Q (F0 m 29 ls [.int (bI (decide (σ.2.2.1 = 255)))]) := by
        refine lv_istore_n (lv' := [(2, .int (bI (decide (σ.2.2.1 = 255)))), (0, .ref rd), (1, .int (bI d))]) hx hb dRD_bit_29 rfl hl (by decide) rfl (fun ls hl => ?_)
        refine lv_aload_n hx hb dRD_bit_30 rfl (lv_at hl 1 rfl) ?_
        refine va_get (D := (dC, dI)) (ci := 4) (v := .int (nI σ.2.1)) (C := "PacketRows$Reader") (T := TRD) (N := 5) hx hb hts inRD hown hK hP 0 rfl rfl 2 (by decide) (hU hts u_281) (fun _ h9 => h9) rfl dRD_bit_31 ?_
        refine lv_aload_n hx hb dRD_bit_34 rfl (lv_at hl 1 rfl) ?_
        refine va_get (D := (dC, dI)) (ci := 4) (v := .ref br) (C := "PacketRows$Reader") (T := TRD) (N := 5) hx hb hts inRD hown hK hP 0 rfl rfl 1 (by decide) (hU hts u_280) (fun _ h9 => h9) rfl dRD_bit_35 ?_
        refine va_get (D := (dC, dI)) (ci := 0) (v := .int (nI bz)) (C := "PacketRows$ByteRow") (T := TBR) (N := 2) hx hb hts inBR hown hK hP 1 rfl rfl 1 (by decide) (hU hts u_229) (fun _ h9 => h9) rfl dRD_bit_38 ?_
        refine qn_clt (tgt := 52) hx hb dRD_bit_41 (by decide) (by omega) (by omega) (fun c_41 => ?_) (fun c_41 => ?_)
        · refine lv_iload_n hx hb dRD_bit_52 rfl (lv_at hl 0 rfl) ?_
          refine qb_ieq (tgt := 81) hx hb dRD_bit_53 (by decide) (fun c_53 => ?_) (fun c_53 => ?_)
          · refine lv_aload_n hx hb dRD_bit_81 rfl (lv_at hl 1 rfl) ?_
            refine lv_aload_n hx hb dRD_bit_82 rfl (lv_at hl 1 rfl) ?_
            refine va_get (D := (dC, dI)) (ci := 4) (v := .ref br) (C := "PacketRows$Reader") (T := TRD) (N := 5) hx hb hts inRD hown hK hP 0 rfl rfl 1 (by decide) (hU hts u_280) (fun _ h9 => h9) rfl dRD_bit_83 ?_
            refine va_get (D := (dC, dI)) (ci := 0) (v := .ref row) (C := "PacketRows$ByteRow") (T := TBR) (N := 2) hx hb hts inBR hown hK hP 1 rfl rfl 0 (by decide) (hU hts u_226) (fun _ h9 => h9) rfl dRD_bit_86 ?_
            refine lv_aload_n hx hb dRD_bit_89 rfl (lv_at hl 1 rfl) ?_
            refine va_get (D := (dC, dI)) (ci := 4) (v := .int (nI σ.2.1)) (C := "PacketRows$Reader") (T := TRD) (N := 5) hx hb hts inRD hown hK hP 0 rfl rfl 2 (by decide) (hU hts u_281) (fun _ h9 => h9) rfl dRD_bit_90 ?_
            refine qi_ald hx hb hK hP 2 0 rfl rfl (k := σ.2.1) (by omega) (by omega) dRD_bit_93 ?_
            refine va_put (D := (dC, dI)) (ci := 4) (v := .int (nI (f σ.2.1))) (ty := .int) (C := "PacketRows$Reader") (T := TRD) (N := 5) hx hb hts inRD tyRD tyRD_ok nmRD hown hK hP hD hS 0 rfl rfl 3 (by decide) (hU hts u_283) (fun _ h9 => h9) rfl (by decide +kernel) rfl rfl (Nat.le_of_ble_eq_true rfl) dRD_bit_94 (fun H locs hP hD hS => ?_)
            have hP : va_P (dC, dI) vwCl [(rd, .inr (4, [.int (nI σ.1), .ref br, .int (nI σ.2.1), .int (nI (f σ.2.1)), .int (nI σ.2.2.2)])), (br, .inr (0, [.ref row, .int (nI bz)])), (row, .inl (cI, 6000, .inl (fun j => nI (f j))))] H := hP
            have hD : va_D A [(rd, .inr (4, [.int (nI σ.1), .ref br, .int (nI σ.2.1), .int (nI (f σ.2.1)), .int (nI σ.2.2.2)])), (br, .inr (0, [.ref row, .int (nI bz)])), (row, .inl (cI, 6000, .inl (fun j => nI (f j))))] := hD
            refine lv_aload_n hx hb dRD_bit_97 rfl (lv_at hl 1 rfl) ?_
            refine lv_iload_n hx hb dRD_bit_98 rfl (lv_at hl 0 rfl) ?_
            have jn_109 : W p l e (headSpec wsRD_bit (rmD 0)).room s m [.ref rd, .int (bI d)].toArray below meth c H locs 0 0 Q (F0 m 109 ls [.int (nI (m_rl σ.2.2.1)), .ref rd]) := by
              refine va_put (D := (dC, dI)) (ci := 4) (v := .int (nI (m_rl σ.2.2.1))) (ty := .int) (C := "PacketRows$Reader") (T := TRD) (N := 5) hx hb hts inRD tyRD tyRD_ok nmRD hown hK hP hD hS 0 rfl rfl 4 (by decide) (hU hts u_284) (fun _ h9 => h9) rfl (by decide +kernel) rfl rfl (Nat.le_of_ble_eq_true rfl) dRD_bit_109 (fun H locs hP hD hS => ?_)
              have hP : va_P (dC, dI) vwCl [(rd, .inr (4, [.int (nI σ.1), .ref br, .int (nI σ.2.1), .int (nI (f σ.2.1)), .int (nI (m_rl σ.2.2.1))])), (br, .inr (0, [.ref row, .int (nI bz)])), (row, .inl (cI, 6000, .inl (fun j => nI (f j))))] H := hP
              have hD : va_D A [(rd, .inr (4, [.int (nI σ.1), .ref br, .int (nI σ.2.1), .int (nI (f σ.2.1)), .int (nI (m_rl σ.2.2.1))])), (br, .inr (0, [.ref row, .int (nI bz)])), (row, .inl (cI, 6000, .inl (fun j => nI (f j))))] := hD
              refine lv_aload_n hx hb dRD_bit_112 rfl (lv_at hl 1 rfl) ?_
              refine lv_dup hx hb dRD_bit_113 rfl ?_
              refine va_get (D := (dC, dI)) (ci := 4) (v := .int (nI σ.2.1)) (C := "PacketRows$Reader") (T := TRD) (N := 5) hx hb hts inRD hown hK hP 0 rfl rfl 2 (by decide) (hU hts u_281) (fun _ h9 => h9) rfl dRD_bit_114 ?_
              refine lv_iconst (v := nI 1) hx hb dRD_bit_117 (by decide +kernel) ?_
              refine qn_iadd hx hb dRD_bit_118 ?_
              refine va_put (D := (dC, dI)) (ci := 4) (v := .int (nI (σ.2.1 + 1))) (ty := .int) (C := "PacketRows$Reader") (T := TRD) (N := 5) hx hb hts inRD tyRD tyRD_ok nmRD hown hK hP hD hS 0 rfl rfl 2 (by decide) (hU hts u_281) (fun _ h9 => h9) rfl (by decide +kernel) rfl rfl (Nat.le_of_ble_eq_true rfl) dRD_bit_119 (fun H locs hP hD hS => ?_)
              have hP : va_P (dC, dI) vwCl [(rd, .inr (4, [.int (nI σ.1), .ref br, .int (nI (σ.2.1 + 1)), .int (nI (f σ.2.1)), .int (nI (m_rl σ.2.2.1))])), (br, .inr (0, [.ref row, .int (nI bz)])), (row, .inl (cI, 6000, .inl (fun j => nI (f j))))] H := hP
              have hD : va_D A [(rd, .inr (4, [.int (nI σ.1), .ref br, .int (nI (σ.2.1 + 1)), .int (nI (f σ.2.1)), .int (nI (m_rl σ.2.2.1))])), (br, .inr (0, [.ref row, .int (nI bz)])), (row, .inl (cI, 6000, .inl (fun j => nI (f j))))] := hD
              refine lv_aload_n hx hb dRD_bit_122 rfl (lv_at hl 1 rfl) ?_
              refine va_get (D := (dC, dI)) (ci := 4) (v := .int (nI σ.1)) (C := "PacketRows$Reader") (T := TRD) (N := 5) hx hb hts inRD hown hK hP 0 rfl rfl 0 (by decide) (hU hts u_254) (fun x9 h9 => u_same (hU hts u_255) x9 h9) rfl dRD_bit_123 ?_
              refine qn_ieq (tgt := 131) hx hb dRD_bit_126 (by decide) (by omega) (fun c_126 => ?_) (fun c_126 => ?_)
              · refine lv_aload_n hx hb dRD_bit_131 rfl (lv_at hl 1 rfl) ?_
                refine lv_dup hx hb dRD_bit_132 rfl ?_
                refine va_get (D := (dC, dI)) (ci := 4) (v := .int (nI (m_rl σ.2.2.1))) (C := "PacketRows$Reader") (T := TRD) (N := 5) hx hb hts inRD hown hK hP 0 rfl rfl 4 (by decide) (hU hts u_284) (fun _ h9 => h9) rfl dRD_bit_133 ?_
                refine lv_iconst (v := nI 1) hx hb dRD_bit_136 (by decide +kernel) ?_
                refine qn_isub hx hb dRD_bit_137 (by first | omega | (unfold m_rl; split <;> omega)) ?_
                refine va_put (D := (dC, dI)) (ci := 4) (v := .int (nI ((m_rl σ.2.2.1) - 1))) (ty := .int) (C := "PacketRows$Reader") (T := TRD) (N := 5) hx hb hts inRD tyRD tyRD_ok nmRD hown hK hP hD hS 0 rfl rfl 4 (by decide) (hU hts u_284) (fun _ h9 => h9) rfl (by decide +kernel) rfl rfl (Nat.le_of_ble_eq_true rfl) dRD_bit_138 (fun H locs hP hD hS => ?_)
                have hP : va_P (dC, dI) vwCl [(rd, .inr (4, [.int (nI σ.1), .ref br, .int (nI (σ.2.1 + 1)), .int (nI (f σ.2.1)), .int (nI ((m_rl σ.2.2.1) - 1))])), (br, .inr (0, [.ref row, .int (nI bz)])), (row, .inl (cI, 6000, .inl (fun j => nI (f j))))] H := hP
                have hD : va_D A [(rd, .inr (4, [.int (nI σ.1), .ref br, .int (nI (σ.2.1 + 1)), .int (nI (f σ.2.1)), .int (nI ((m_rl σ.2.2.1) - 1))])), (br, .inr (0, [.ref row, .int (nI bz)])), (row, .inl (cI, 6000, .inl (fun j => nI (f j))))] := hD
                refine lv_aload_n hx hb dRD_bit_141 rfl (lv_at hl 1 rfl) ?_
                refine va_get (D := (dC, dI)) (ci := 4) (v := .int (nI (f σ.2.1))) (C := "PacketRows$Reader") (T := TRD) (N := 5) hx hb hts inRD hown hK hP 0 rfl rfl 3 (by decide) (hU hts u_283) (fun _ h9 => h9) rfl dRD_bit_142 ?_
                refine lv_aload_n hx hb dRD_bit_145 rfl (lv_at hl 1 rfl) ?_
                refine va_get (D := (dC, dI)) (ci := 4) (v := .int (nI ((m_rl σ.2.2.1) - 1))) (C := "PacketRows$Reader") (T := TRD) (N := 5) hx hb hts inRD hown hK hP 0 rfl rfl 4 (by decide) (hU hts u_284) (fun _ h9 => h9) rfl dRD_bit_146 ?_
                refine qn_ishr hx hb dRD_bit_149 (by first | omega | (have := hf5 σ.2.1; omega)) (by first | omega | (unfold m_rl; split <;> omega)) ?_
                refine lv_iconst (v := nI 1) hx hb dRD_bit_150 (by decide +kernel) ?_
                refine qn_iand hx hb dRD_bit_151 ?_
                refine lv_iconst (v := nI 1) hx hb dRD_bit_152 (by decide +kernel) ?_
                have jn_161 : W p l e (headSpec wsRD_bit (rmD 0)).room s m [.ref rd, .int (bI d)].toArray below meth c H locs 0 0 Q (F0 m 161 ls [.int (bI (decide (((f σ.2.1) / 2 ^ ((m_rl σ.2.2.1) - 1)) &&& 1 = 1)))]) := by
                  exact hret _ () _ _ _ _ dRD_bit_161 (by unfold bitR m_rb m_rf; first | (rw [if_pos (show σ.1 = 0 ∧ σ.2.2.2 = 0 from ⟨c_4, c_11⟩), if_neg (show ¬ bz ≤ σ.2.1 from by omega), if_neg (show ¬ (σ.2.2.1 = 255 ∧ 127 < f σ.2.1) from fun h => by first | omega | exact absurd h.1 (of_decide_eq_false c_53)), if_pos (show σ.1 = 0 from c_4)]; try rfl) | (rw [if_neg (show ¬ (σ.1 = 0 ∧ σ.2.2.2 = 0) from fun h => by omega), if_pos (show σ.1 = 0 from c_4)]; try rfl)) (by unfold bitR m_rb m_rf; first | (rw [if_pos (show σ.1 = 0 ∧ σ.2.2.2 = 0 from ⟨c_4, c_11⟩), if_neg (show ¬ bz ≤ σ.2.1 from by omega), if_neg (show ¬ (σ.2.2.1 = 255 ∧ 127 < f σ.2.1) from fun h => by first | omega | exact absurd h.1 (of_decide_eq_false c_53)), if_pos (show σ.1 = 0 from c_4)]; exact hP) | (rw [if_neg (show ¬ (σ.1 = 0 ∧ σ.2.2.2 = 0) from fun h => by omega), if_pos (show σ.1 = 0 from c_4)]; exact hP)) hS
                refine qn_cne (tgt := 160) hx hb dRD_bit_153 (by decide) (Nat.lt_of_le_of_lt Nat.and_le_right (by omega)) (by omega) (fun c_153 => ?_) (fun c_153 => ?_)
                · refine lv_iconst (v := nI 0) hx hb dRD_bit_160 (by decide +kernel) ?_
                  exact qn_eq (by rw [decide_eq_false (by first | exact c_153 | exact Int32.not_lt.mpr c_153 | exact Int32.not_le.mpr c_153 | omega)]; rfl) jn_161
                · refine lv_iconst (v := nI 1) hx hb dRD_bit_156 (by decide +kernel) ?_
                  refine lv_goto (tgt := 161) hx hb dRD_bit_157 (by decide) ?_
                  exact qn_eq (by rw [decide_eq_true (by first | exact c_153 | exact Int32.not_le.mp c_153 | exact Int32.not_lt.mp c_153 | omega)]; rfl) jn_161
              · exact absurd c_126 (by omega)
            refine qb_ieq (tgt := 107) hx hb dRD_bit_99 (by decide) (fun c_99 => ?_) (fun c_99 => ?_)
            · refine lv_bipush (v := nI 8) hx hb dRD_bit_107 (by decide +kernel) ?_
              exact qn_eq (by unfold m_rl; first | rw [if_pos (of_decide_eq_true c_99)] | rw [if_neg (of_decide_eq_false c_99)]) jn_109
            · exact absurd c_99 (fun h9 => Bool.noConfusion (h9.symm.trans c_53))
          · refine lv_aload_n hx hb dRD_bit_56 rfl (lv_at hl 1 rfl) ?_
            refine va_get (D := (dC, dI)) (ci := 4) (v := .ref br) (C := "PacketRows$Reader") (T := TRD) (N := 5) hx hb hts inRD hown hK hP 0 rfl rfl 1 (by decide) (hU hts u_280) (fun _ h9 => h9) rfl dRD_bit_57 ?_
            refine va_get (D := (dC, dI)) (ci := 0) (v := .ref row) (C := "PacketRows$ByteRow") (T := TBR) (N := 2) hx hb hts inBR hown hK hP 1 rfl rfl 0 (by decide) (hU hts u_226) (fun _ h9 => h9) rfl dRD_bit_60 ?_
            refine lv_aload_n hx hb dRD_bit_63 rfl (lv_at hl 1 rfl) ?_
            refine va_get (D := (dC, dI)) (ci := 4) (v := .int (nI σ.2.1)) (C := "PacketRows$Reader") (T := TRD) (N := 5) hx hb hts inRD hown hK hP 0 rfl rfl 2 (by decide) (hU hts u_281) (fun _ h9 => h9) rfl dRD_bit_64 ?_
            refine qi_ald hx hb hK hP 2 0 rfl rfl (k := σ.2.1) (by omega) (by omega) dRD_bit_67 ?_
            refine lv_bipush (v := nI 127) hx hb dRD_bit_68 (by decide +kernel) ?_
            refine qn_cle (tgt := 81) hx hb dRD_bit_70 (by decide) (by have := hf5 σ.2.1; omega) (by omega) (fun c_70 => ?_) (fun c_70 => ?_)
            · refine lv_aload_n hx hb dRD_bit_81 rfl (lv_at hl 1 rfl) ?_
              refine lv_aload_n hx hb dRD_bit_82 rfl (lv_at hl 1 rfl) ?_
              refine va_get (D := (dC, dI)) (ci := 4) (v := .ref br) (C := "PacketRows$Reader") (T := TRD) (N := 5) hx hb hts inRD hown hK hP 0 rfl rfl 1 (by decide) (hU hts u_280) (fun _ h9 => h9) rfl dRD_bit_83 ?_
              refine va_get (D := (dC, dI)) (ci := 0) (v := .ref row) (C := "PacketRows$ByteRow") (T := TBR) (N := 2) hx hb hts inBR hown hK hP 1 rfl rfl 0 (by decide) (hU hts u_226) (fun _ h9 => h9) rfl dRD_bit_86 ?_
              refine lv_aload_n hx hb dRD_bit_89 rfl (lv_at hl 1 rfl) ?_
              refine va_get (D := (dC, dI)) (ci := 4) (v := .int (nI σ.2.1)) (C := "PacketRows$Reader") (T := TRD) (N := 5) hx hb hts inRD hown hK hP 0 rfl rfl 2 (by decide) (hU hts u_281) (fun _ h9 => h9) rfl dRD_bit_90 ?_
              refine qi_ald hx hb hK hP 2 0 rfl rfl (k := σ.2.1) (by omega) (by omega) dRD_bit_93 ?_
              refine va_put (D := (dC, dI)) (ci := 4) (v := .int (nI (f σ.2.1))) (ty := .int) (C := "PacketRows$Reader") (T := TRD) (N := 5) hx hb hts inRD tyRD tyRD_ok nmRD hown hK hP hD hS 0 rfl rfl 3 (by decide) (hU hts u_283) (fun _ h9 => h9) rfl (by decide +kernel) rfl rfl (Nat.le_of_ble_eq_true rfl) dRD_bit_94 (fun H locs hP hD hS => ?_)
              have hP : va_P (dC, dI) vwCl [(rd, .inr (4, [.int (nI σ.1), .ref br, .int (nI σ.2.1), .int (nI (f σ.2.1)), .int (nI σ.2.2.2)])), (br, .inr (0, [.ref row, .int (nI bz)])), (row, .inl (cI, 6000, .inl (fun j => nI (f j))))] H := hP
              have hD : va_D A [(rd, .inr (4, [.int (nI σ.1), .ref br, .int (nI σ.2.1), .int (nI (f σ.2.1)), .int (nI σ.2.2.2)])), (br, .inr (0, [.ref row, .int (nI bz)])), (row, .inl (cI, 6000, .inl (fun j => nI (f j))))] := hD
              refine lv_aload_n hx hb dRD_bit_97 rfl (lv_at hl 1 rfl) ?_
              refine lv_iload_n hx hb dRD_bit_98 rfl (lv_at hl 0 rfl) ?_
              have jn_109 : W p l e (headSpec wsRD_bit (rmD 0)).room s m [.ref rd, .int (bI d)].toArray below meth c H locs 0 0 Q (F0 m 109 ls [.int (nI (m_rl σ.2.2.1)), .ref rd]) := by
                refine va_put (D := (dC, dI)) (ci := 4) (v := .int (nI (m_rl σ.2.2.1))) (ty := .int) (C := "PacketRows$Reader") (T := TRD) (N := 5) hx hb hts inRD tyRD tyRD_ok nmRD hown hK hP hD hS 0 rfl rfl 4 (by decide) (hU hts u_284) (fun _ h9 => h9) rfl (by decide +kernel) rfl rfl (Nat.le_of_ble_eq_true rfl) dRD_bit_109 (fun H locs hP hD hS => ?_)
                have hP : va_P (dC, dI) vwCl [(rd, .inr (4, [.int (nI σ.1), .ref br, .int (nI σ.2.1), .int (nI (f σ.2.1)), .int (nI (m_rl σ.2.2.1))])), (br, .inr (0, [.ref row, .int (nI bz)])), (row, .inl (cI, 6000, .inl (fun j => nI (f j))))] H := hP
                have hD : va_D A [(rd, .inr (4, [.int (nI σ.1), .ref br, .int (nI σ.2.1), .int (nI (f σ.2.1)), .int (nI (m_rl σ.2.2.1))])), (br, .inr (0, [.ref row, .int (nI bz)])), (row, .inl (cI, 6000, .inl (fun j => nI (f j))))] := hD
                refine lv_aload_n hx hb dRD_bit_112 rfl (lv_at hl 1 rfl) ?_
                refine lv_dup hx hb dRD_bit_113 rfl ?_
                refine va_get (D := (dC, dI)) (ci := 4) (v := .int (nI σ.2.1)) (C := "PacketRows$Reader") (T := TRD) (N := 5) hx hb hts inRD hown hK hP 0 rfl rfl 2 (by decide) (hU hts u_281) (fun _ h9 => h9) rfl dRD_bit_114 ?_
                refine lv_iconst (v := nI 1) hx hb dRD_bit_117 (by decide +kernel) ?_
                refine qn_iadd hx hb dRD_bit_118 ?_
                refine va_put (D := (dC, dI)) (ci := 4) (v := .int (nI (σ.2.1 + 1))) (ty := .int) (C := "PacketRows$Reader") (T := TRD) (N := 5) hx hb hts inRD tyRD tyRD_ok nmRD hown hK hP hD hS 0 rfl rfl 2 (by decide) (hU hts u_281) (fun _ h9 => h9) rfl (by decide +kernel) rfl rfl (Nat.le_of_ble_eq_true rfl) dRD_bit_119 (fun H locs hP hD hS => ?_)
                have hP : va_P (dC, dI) vwCl [(rd, .inr (4, [.int (nI σ.1), .ref br, .int (nI (σ.2.1 + 1)), .int (nI (f σ.2.1)), .int (nI (m_rl σ.2.2.1))])), (br, .inr (0, [.ref row, .int (nI bz)])), (row, .inl (cI, 6000, .inl (fun j => nI (f j))))] H := hP
                have hD : va_D A [(rd, .inr (4, [.int (nI σ.1), .ref br, .int (nI (σ.2.1 + 1)), .int (nI (f σ.2.1)), .int (nI (m_rl σ.2.2.1))])), (br, .inr (0, [.ref row, .int (nI bz)])), (row, .inl (cI, 6000, .inl (fun j => nI (f j))))] := hD
                refine lv_aload_n hx hb dRD_bit_122 rfl (lv_at hl 1 rfl) ?_
                refine va_get (D := (dC, dI)) (ci := 4) (v := .int (nI σ.1)) (C := "PacketRows$Reader") (T := TRD) (N := 5) hx hb hts inRD hown hK hP 0 rfl rfl 0 (by decide) (hU hts u_254) (fun x9 h9 => u_same (hU hts u_255) x9 h9) rfl dRD_bit_123 ?_
                refine qn_ieq (tgt := 131) hx hb dRD_bit_126 (by decide) (by omega) (fun c_126 => ?_) (fun c_126 => ?_)
                · refine lv_aload_n hx hb dRD_bit_131 rfl (lv_at hl 1 rfl) ?_
                  refine lv_dup hx hb dRD_bit_132 rfl ?_
                  refine va_get (D := (dC, dI)) (ci := 4) (v := .int (nI (m_rl σ.2.2.1))) (C := "PacketRows$Reader") (T := TRD) (N := 5) hx hb hts inRD hown hK hP 0 rfl rfl 4 (by decide) (hU hts u_284) (fun _ h9 => h9) rfl dRD_bit_133 ?_
                  refine lv_iconst (v := nI 1) hx hb dRD_bit_136 (by decide +kernel) ?_
                  refine qn_isub hx hb dRD_bit_137 (by first | omega | (unfold m_rl; split <;> omega)) ?_
                  refine va_put (D := (dC, dI)) (ci := 4) (v := .int (nI ((m_rl σ.2.2.1) - 1))) (ty := .int) (C := "PacketRows$Reader") (T := TRD) (N := 5) hx hb hts inRD tyRD tyRD_ok nmRD hown hK hP hD hS 0 rfl rfl 4 (by decide) (hU hts u_284) (fun _ h9 => h9) rfl (by decide +kernel) rfl rfl (Nat.le_of_ble_eq_true rfl) dRD_bit_138 (fun H locs hP hD hS => ?_)
                  have hP : va_P (dC, dI) vwCl [(rd, .inr (4, [.int (nI σ.1), .ref br, .int (nI (σ.2.1 + 1)), .int (nI (f σ.2.1)), .int (nI ((m_rl σ.2.2.1) - 1))])), (br, .inr (0, [.ref row, .int (nI bz)])), (row, .inl (cI, 6000, .inl (fun j => nI (f j))))] H := hP
                  have hD : va_D A [(rd, .inr (4, [.int (nI σ.1), .ref br, .int (nI (σ.2.1 + 1)), .int (nI (f σ.2.1)), .int (nI ((m_rl σ.2.2.1) - 1))])), (br, .inr (0, [.ref row, .int (nI bz)])), (row, .inl (cI, 6000, .inl (fun j => nI (f j))))] := hD
                  refine lv_aload_n hx hb dRD_bit_141 rfl (lv_at hl 1 rfl) ?_
                  refine va_get (D := (dC, dI)) (ci := 4) (v := .int (nI (f σ.2.1))) (C := "PacketRows$Reader") (T := TRD) (N := 5) hx hb hts inRD hown hK hP 0 rfl rfl 3 (by decide) (hU hts u_283) (fun _ h9 => h9) rfl dRD_bit_142 ?_
                  refine lv_aload_n hx hb dRD_bit_145 rfl (lv_at hl 1 rfl) ?_
                  refine va_get (D := (dC, dI)) (ci := 4) (v := .int (nI ((m_rl σ.2.2.1) - 1))) (C := "PacketRows$Reader") (T := TRD) (N := 5) hx hb hts inRD hown hK hP 0 rfl rfl 4 (by decide) (hU hts u_284) (fun _ h9 => h9) rfl dRD_bit_146 ?_
                  refine qn_ishr hx hb dRD_bit_149 (by first | omega | (have := hf5 σ.2.1; omega)) (by first | omega | (unfold m_rl; split <;> omega)) ?_
                  refine lv_iconst (v := nI 1) hx hb dRD_bit_150 (by decide +kernel) ?_
                  refine qn_iand hx hb dRD_bit_151 ?_
                  refine lv_iconst (v := nI 1) hx hb dRD_bit_152 (by decide +kernel) ?_
                  have jn_161 : W p l e (headSpec wsRD_bit (rmD 0)).room s m [.ref rd, .int (bI d)].toArray below meth c H locs 0 0 Q (F0 m 161 ls [.int (bI (decide (((f σ.2.1) / 2 ^ ((m_rl σ.2.2.1) - 1)) &&& 1 = 1)))]) := by
                    exact hret _ () _ _ _ _ dRD_bit_161 (by unfold bitR m_rb m_rf; first | (rw [if_pos (show σ.1 = 0 ∧ σ.2.2.2 = 0 from ⟨c_4, c_11⟩), if_neg (show ¬ bz ≤ σ.2.1 from by omega), if_neg (show ¬ (σ.2.2.1 = 255 ∧ 127 < f σ.2.1) from fun h => by first | omega | exact absurd h.1 (of_decide_eq_false c_53)), if_pos (show σ.1 = 0 from c_4)]; try rfl) | (rw [if_neg (show ¬ (σ.1 = 0 ∧ σ.2.2.2 = 0) from fun h => by omega), if_pos (show σ.1 = 0 from c_4)]; try rfl)) (by unfold bitR m_rb m_rf; first | (rw [if_pos (show σ.1 = 0 ∧ σ.2.2.2 = 0 from ⟨c_4, c_11⟩), if_neg (show ¬ bz ≤ σ.2.1 from by omega), if_neg (show ¬ (σ.2.2.1 = 255 ∧ 127 < f σ.2.1) from fun h => by first | omega | exact absurd h.1 (of_decide_eq_false c_53)), if_pos (show σ.1 = 0 from c_4)]; exact hP) | (rw [if_neg (show ¬ (σ.1 = 0 ∧ σ.2.2.2 = 0) from fun h => by omega), if_pos (show σ.1 = 0 from c_4)]; exact hP)) hS
                  refine qn_cne (tgt := 160) hx hb dRD_bit_153 (by decide) (Nat.lt_of_le_of_lt Nat.and_le_right (by omega)) (by omega) (fun c_153 => ?_) (fun c_153 => ?_)
                  · refine lv_iconst (v := nI 0) hx hb dRD_bit_160 (by decide +kernel) ?_
                    exact qn_eq (by rw [decide_eq_false (by first | exact c_153 | exact Int32.not_lt.mpr c_153 | exact Int32.not_le.mpr c_153 | omega)]; rfl) jn_161
                  · refine lv_iconst (v := nI 1) hx hb dRD_bit_156 (by decide +kernel) ?_
                    refine lv_goto (tgt := 161) hx hb dRD_bit_157 (by decide) ?_
                    exact qn_eq (by rw [decide_eq_true (by first | exact c_153 | exact Int32.not_le.mp c_153 | exact Int32.not_lt.mp c_153 | omega)]; rfl) jn_161
                · exact absurd c_126 (by omega)
              refine qb_ieq (tgt := 107) hx hb dRD_bit_99 (by decide) (fun c_99 => ?_) (fun c_99 => ?_)
              · exact absurd c_99 (fun h9 => Bool.noConfusion (h9.symm.trans c_53))
              · refine lv_bipush (v := nI 7) hx hb dRD_bit_102 (by decide +kernel) ?_
                refine lv_goto (tgt := 109) hx hb dRD_bit_104 (by decide) ?_
                exact qn_eq (by unfold m_rl; first | rw [if_pos (of_decide_eq_true c_99)] | rw [if_neg (of_decide_eq_false c_99)]) jn_109
            · refine lv_aload_n hx hb dRD_bit_73 rfl (lv_at hl 1 rfl) ?_
              refine lv_iconst (v := nI 2) hx hb dRD_bit_74 (by decide +kernel) ?_
              refine va_put (D := (dC, dI)) (ci := 4) (v := .int (nI 2)) (ty := .int) (C := "PacketRows$Reader") (T := TRD) (N := 5) hx hb hts inRD tyRD tyRD_ok nmRD hown hK hP hD hS 0 rfl rfl 0 (by decide) (hU hts u_254) (fun x9 h9 => u_same (hU hts u_255) x9 h9) rfl (by decide +kernel) rfl rfl (Nat.le_of_ble_eq_true rfl) dRD_bit_75 (fun H locs hP hD hS => ?_)
              have hP : va_P (dC, dI) vwCl [(rd, .inr (4, [.int (nI 2), .ref br, .int (nI σ.2.1), .int (nI σ.2.2.1), .int (nI σ.2.2.2)])), (br, .inr (0, [.ref row, .int (nI bz)])), (row, .inl (cI, 6000, .inl (fun j => nI (f j))))] H := hP
              have hD : va_D A [(rd, .inr (4, [.int (nI 2), .ref br, .int (nI σ.2.1), .int (nI σ.2.2.1), .int (nI σ.2.2.2)])), (br, .inr (0, [.ref row, .int (nI bz)])), (row, .inl (cI, 6000, .inl (fun j => nI (f j))))] := hD
              refine lv_goto (tgt := 122) hx hb dRD_bit_78 (by decide) ?_
              refine lv_aload_n hx hb dRD_bit_122 rfl (lv_at hl 1 rfl) ?_
              refine va_get (D := (dC, dI)) (ci := 4) (v := .int (nI 2)) (C := "PacketRows$Reader") (T := TRD) (N := 5) hx hb hts inRD hown hK hP 0 rfl rfl 0 (by decide) (hU hts u_254) (fun x9 h9 => u_same (hU hts u_255) x9 h9) rfl dRD_bit_123 ?_
              refine qn_ieq (tgt := 131) hx hb dRD_bit_126 (by decide) (by omega) (fun c_126 => ?_) (fun c_126 => ?_)
              · exact absurd c_126 (by omega)
              · refine lv_iconst (v := nI 0) hx hb dRD_bit_129 (by decide +kernel) ?_
                exact hret _ () _ _ _ _ dRD_bit_130 (by unfold bitR m_rb m_rf; first | (rw [if_pos (show σ.1 = 0 ∧ σ.2.2.2 = 0 from ⟨c_4, c_11⟩), if_pos (show bz ≤ σ.2.1 from c_41)]; rfl) | (rw [if_pos (show σ.1 = 0 ∧ σ.2.2.2 = 0 from ⟨c_4, c_11⟩), if_neg (show ¬ bz ≤ σ.2.1 from by omega), if_pos (show σ.2.2.1 = 255 ∧ 127 < f σ.2.1 from ⟨of_decide_eq_true c_53, c_70⟩)]; rfl) | (rw [if_neg (show ¬ (σ.1 = 0 ∧ σ.2.2.2 = 0) from fun h => by omega), if_neg (show ¬ σ.1 = 0 from by omega)]; rfl)) (by unfold bitR m_rb m_rf; first | (rw [if_pos (show σ.1 = 0 ∧ σ.2.2.2 = 0 from ⟨c_4, c_11⟩), if_pos (show bz ≤ σ.2.1 from c_41)]; exact hP) | (rw [if_pos (show σ.1 = 0 ∧ σ.2.2.2 = 0 from ⟨c_4, c_11⟩), if_neg (show ¬ bz ≤ σ.2.1 from by omega), if_pos (show σ.2.2.1 = 255 ∧ 127 < f σ.2.1 from ⟨of_decide_eq_true c_53, c_70⟩)]; exact hP) | (rw [if_neg (show ¬ (σ.1 = 0 ∧ σ.2.2.2 = 0) from fun h => by omega), if_neg (show ¬ σ.1 = 0 from by omega)]; exact hP)) hS
        · refine lv_aload_n hx hb dRD_bit_44 rfl (lv_at hl 1 rfl) ?_
          refine lv_iconst (v := nI 1) hx hb dRD_bit_45 (by decide +kernel) ?_
          refine va_put (D := (dC, dI)) (ci := 4) (v := .int (nI 1)) (ty := .int) (C := "PacketRows$Reader") (T := TRD) (N := 5) hx hb hts inRD tyRD tyRD_ok nmRD hown hK hP hD hS 0 rfl rfl 0 (by decide) (hU hts u_254) (fun x9 h9 => u_same (hU hts u_255) x9 h9) rfl (by decide +kernel) rfl rfl (Nat.le_of_ble_eq_true rfl) dRD_bit_46 (fun H locs hP hD hS => ?_)
          have hP : va_P (dC, dI) vwCl [(rd, .inr (4, [.int (nI 1), .ref br, .int (nI σ.2.1), .int (nI σ.2.2.1), .int (nI σ.2.2.2)])), (br, .inr (0, [.ref row, .int (nI bz)])), (row, .inl (cI, 6000, .inl (fun j => nI (f j))))] H := hP
          have hD : va_D A [(rd, .inr (4, [.int (nI 1), .ref br, .int (nI σ.2.1), .int (nI σ.2.2.1), .int (nI σ.2.2.2)])), (br, .inr (0, [.ref row, .int (nI bz)])), (row, .inl (cI, 6000, .inl (fun j => nI (f j))))] := hD
          refine lv_goto (tgt := 122) hx hb dRD_bit_49 (by decide) ?_
          refine lv_aload_n hx hb dRD_bit_122 rfl (lv_at hl 1 rfl) ?_
          refine va_get (D := (dC, dI)) (ci := 4) (v := .int (nI 1)) (C := "PacketRows$Reader") (T := TRD) (N := 5) hx hb hts inRD hown hK hP 0 rfl rfl 0 (by decide) (hU hts u_254) (fun x9 h9 => u_same (hU hts u_255) x9 h9) rfl dRD_bit_123 ?_
          refine qn_ieq (tgt := 131) hx hb dRD_bit_126 (by decide) (by omega) (fun c_126 => ?_) (fun c_126 => ?_)
          · exact absurd c_126 (by omega)
          · refine lv_iconst (v := nI 0) hx hb dRD_bit_129 (by decide +kernel) ?_
            exact hret _ () _ _ _ _ dRD_bit_130 (by unfold bitR m_rb m_rf; first | (rw [if_pos (show σ.1 = 0 ∧ σ.2.2.2 = 0 from ⟨c_4, c_11⟩), if_pos (show bz ≤ σ.2.1 from c_41)]; rfl) | (rw [if_pos (show σ.1 = 0 ∧ σ.2.2.2 = 0 from ⟨c_4, c_11⟩), if_neg (show ¬ bz ≤ σ.2.1 from by omega), if_pos (show σ.2.2.1 = 255 ∧ 127 < f σ.2.1 from ⟨of_decide_eq_true c_53, c_70⟩)]; rfl) | (rw [if_neg (show ¬ (σ.1 = 0 ∧ σ.2.2.2 = 0) from fun h => by omega), if_neg (show ¬ σ.1 = 0 from by omega)]; rfl)) (by unfold bitR m_rb m_rf; first | (rw [if_pos (show σ.1 = 0 ∧ σ.2.2.2 = 0 from ⟨c_4, c_11⟩), if_pos (show bz ≤ σ.2.1 from c_41)]; exact hP) | (rw [if_pos (show σ.1 = 0 ∧ σ.2.2.2 = 0 from ⟨c_4, c_11⟩), if_neg (show ¬ bz ≤ σ.2.1 from by omega), if_pos (show σ.2.2.1 = 255 ∧ 127 < f σ.2.1 from ⟨of_decide_eq_true c_53, c_70⟩)]; exact hP) | (rw [if_neg (show ¬ (σ.1 = 0 ∧ σ.2.2.2 = 0) from fun h => by omega), if_neg (show ¬ σ.1 = 0 from by omega)]; exact hP)) hS
      refine qn_cne (tgt := 28) hx hb dRD_bit_21 (by decide) (by omega) (by omega) (fun c_21 => ?_) (fun c_21 => ?_)
      · refine lv_iconst (v := nI 0) hx hb dRD_bit_28 (by decide +kernel) ?_
        exact qn_eq (by rw [decide_eq_false (by first | exact c_21 | exact Int32.not_lt.mpr c_21 | exact Int32.not_le.mpr c_21 | omega)]; rfl) jn_29
      · refine lv_iconst (v := nI 1) hx hb dRD_bit_24 (by decide +kernel) ?_
        refine lv_goto (tgt := 29) hx hb dRD_bit_25 (by decide) ?_
        exact qn_eq (by rw [decide_eq_true (by first | exact c_21 | exact Int32.not_le.mp c_21 | exact Int32.not_lt.mp c_21 | omega)]; rfl) jn_29

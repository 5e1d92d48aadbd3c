set_option maxHeartbeats 4000000 in
set_option maxRecDepth 100000 in
theorem k_zero_thr (l : Launch) (dC : Nat → ClassId) (dI : Nat → Nat → Nat) (cI cZ cL : ClassId) (x : Nat) (pi : Nat) (tr : Nat) (rr : Nat) (o : Nat) (br : Nat) (wr : Nat) (rd : Nat) (hd : Nat) (cs : Nat) (co : Nat) (lf : Nat) (lr : Nat) (wt : Bool) (v : Int32) (hl0 : l.stackTraces = false) (hbad : ¬ (nI 0 ≤ v ∧ v ≤ nI 30)) :
    q_CT l (dC, dI) vwCl (tyL cI cZ cL) yPR_zero wsPR_zero (rmN 3 1 6) [.ref x, .int v] [(x, .inr (8, [.ref pi, .ref tr, .ref rr, .ref o, .ref br, .ref wr, .ref rd, .ref hd, .int (nI cs), .int (nI co), .int (bI wt), .int (nI lf), .int (nI lr)]))] "java/lang/IllegalArgumentException" := by
  refine q_entT "PacketRows" hl0 (by decide) rfl rfl (Nat.le_of_ble_eq_true rfl) ?_
  intro p e s m below meth c ls Q A hx hb hml hts hown hP hD hK hZ hO hA hS hl hret
  have hl : lv_has ls 2 [(0, .ref x), (1, .int v)] := hl
  refine lv_iload_n hx hb dPR_zero_0 rfl (lv_at hl 1 rfl) ?_
  refine lv_iconst (v := nI 0) hx hb dPR_zero_1 (by decide +kernel) ?_
  refine lv_bipush (v := nI 30) hx hb dPR_zero_2 (by decide +kernel) ?_
  refine vp_callSi (W.runS (As := [.int v, .int (nI 0), .int (nI 30)]) (rest := []) ⟨hx, hb, hml, hown, hts⟩ (k_PacketRows_isWithin l dC dI cI cZ cL v (nI 0) (nI 30) ) (va_cwS 3 hts (gS u_965 u_920 u_40 u_921) rfl rfl rfl (by decide +kernel) ⟨Nat.le_of_ble_eq_true rfl, Nat.le_of_ble_eq_true rfl⟩) (q_preP hK hZ hP [] rfl) rfl rfl hl.1 rfl (lv_room (Nat.le_of_ble_eq_true rfl)) dPR_zero_4 ⟨Nat.le_of_ble_eq_true rfl, Nat.le_of_ble_eq_true rfl⟩) (fun r_ er_ => ?_)
  subst er_
  refine qb_ine (tgt := 20) hx hb dPR_zero_7 (by decide) (fun c_7 => ?_) (fun c_7 => ?_)
  · exact absurd c_7 (by rw [decide_eq_false hbad]; decide)
  · exact hret 120 169 124 "no such zero planes" 10 ls (by rw [hml]; exact hl.1.symm) (hU hts u_966) (hU hts u_57) (s_169 hZ.2.1) (oat_IA hts hZ hO (hU hts u_968)) (by decide +kernel) dPR_zero_10 dPR_zero_13 dPR_zero_14 dPR_zero_16 dPR_zero_19 (Nat.le_of_ble_eq_true rfl) (Nat.le_of_ble_eq_true rfl) (Nat.le_of_ble_eq_true rfl) (Nat.le_of_ble_eq_true rfl)
set_option maxHeartbeats 4000000 in
set_option maxRecDepth 100000 in
theorem k_part_thr (l : Launch) (dC : Nat → ClassId) (dI : Nat → Nat → Nat) (cI cZ cL : ClassId) (x : Nat) (pi : Nat) (tr : Nat) (rr : Nat) (o : Nat) (br : Nat) (wr : Nat) (rd : Nat) (hd : Nat) (cs : Nat) (co : Nat) (lf : Nat) (lr : Nat) (wt : Bool) (a b c0 d0 : Int32) (hl0 : l.stackTraces = false) (hbad : ¬ ((nI 0 ≤ a ∧ a ≤ nI 4) ∧ (nI 1 ≤ b ∧ b ≤ nI 8) ∧ (nI 1 ≤ c0 ∧ c0 ≤ nI 4) ∧ (nI 1 ≤ d0 ∧ d0 ≤ nI 3))) :
    q_CT l (dC, dI) vwCl (tyL cI cZ cL) yPR_part wsPR_part (rmN 3 1 6) [.ref x, .int a, .int b, .int c0, .int d0] [(x, .inr (8, [.ref pi, .ref tr, .ref rr, .ref o, .ref br, .ref wr, .ref rd, .ref hd, .int (nI cs), .int (nI co), .int (bI wt), .int (nI lf), .int (nI lr)]))] "java/lang/IllegalArgumentException" := by
  refine q_entT "PacketRows" hl0 (by decide) rfl rfl (Nat.le_of_ble_eq_true rfl) ?_
  intro p e s m below meth c ls Q A hx hb hml hts hown hP hD hK hZ hO hA hS hl hret
  have hl : lv_has ls 5 [(0, .ref x), (1, .int a), (2, .int b), (3, .int c0), (4, .int d0)] := hl
  refine lv_iload_n hx hb dPR_part_0 rfl (lv_at hl 1 rfl) ?_
  refine lv_iconst (v := nI 0) hx hb dPR_part_1 (by decide +kernel) ?_
  refine lv_iconst (v := nI 4) hx hb dPR_part_2 (by decide +kernel) ?_
  refine vp_callSi (W.runS (As := [.int a, .int (nI 0), .int (nI 4)]) (rest := []) ⟨hx, hb, hml, hown, hts⟩ (k_PacketRows_isWithin l dC dI cI cZ cL a (nI 0) (nI 4) ) (va_cwS 3 hts (gS u_965 u_920 u_40 u_921) rfl rfl rfl (by decide +kernel) ⟨Nat.le_of_ble_eq_true rfl, Nat.le_of_ble_eq_true rfl⟩) (q_preP hK hZ hP [] rfl) rfl rfl hl.1 rfl (lv_room (Nat.le_of_ble_eq_true rfl)) dPR_part_3 ⟨Nat.le_of_ble_eq_true rfl, Nat.le_of_ble_eq_true rfl⟩) (fun r_ er_ => ?_)
  subst er_
  refine qb_ieq (tgt := 38) hx hb dPR_part_6 (by decide) (fun c_6 => ?_) (fun c_6 => ?_)
  · exact hret 120 174 124 "no such order or ends" 38 ls (by rw [hml]; exact hl.1.symm) (hU hts u_966) (hU hts u_57) (s_174 hZ.2.1) (oat_IA hts hZ hO (hU hts u_968)) (by decide +kernel) dPR_part_38 dPR_part_41 dPR_part_42 dPR_part_44 dPR_part_47 (Nat.le_of_ble_eq_true rfl) (Nat.le_of_ble_eq_true rfl) (Nat.le_of_ble_eq_true rfl) (Nat.le_of_ble_eq_true rfl)
  · refine lv_iload_n hx hb dPR_part_9 rfl (lv_at hl 2 rfl) ?_
    refine lv_iconst (v := nI 1) hx hb dPR_part_10 (by decide +kernel) ?_
    refine lv_bipush (v := nI 8) hx hb dPR_part_11 (by decide +kernel) ?_
    refine vp_callSi (W.runS (As := [.int b, .int (nI 1), .int (nI 8)]) (rest := []) ⟨hx, hb, hml, hown, hts⟩ (k_PacketRows_isWithin l dC dI cI cZ cL b (nI 1) (nI 8) ) (va_cwS 3 hts (gS u_965 u_920 u_40 u_921) rfl rfl rfl (by decide +kernel) ⟨Nat.le_of_ble_eq_true rfl, Nat.le_of_ble_eq_true rfl⟩) (q_preP hK hZ hP [] rfl) rfl rfl hl.1 rfl (lv_room (Nat.le_of_ble_eq_true rfl)) dPR_part_13 ⟨Nat.le_of_ble_eq_true rfl, Nat.le_of_ble_eq_true rfl⟩) (fun r_ er_ => ?_)
    subst er_
    refine qb_ieq (tgt := 38) hx hb dPR_part_16 (by decide) (fun c_16 => ?_) (fun c_16 => ?_)
    · exact hret 120 174 124 "no such order or ends" 38 ls (by rw [hml]; exact hl.1.symm) (hU hts u_966) (hU hts u_57) (s_174 hZ.2.1) (oat_IA hts hZ hO (hU hts u_968)) (by decide +kernel) dPR_part_38 dPR_part_41 dPR_part_42 dPR_part_44 dPR_part_47 (Nat.le_of_ble_eq_true rfl) (Nat.le_of_ble_eq_true rfl) (Nat.le_of_ble_eq_true rfl) (Nat.le_of_ble_eq_true rfl)
    · refine lv_iload_n hx hb dPR_part_19 rfl (lv_at hl 3 rfl) ?_
      refine lv_iconst (v := nI 1) hx hb dPR_part_20 (by decide +kernel) ?_
      refine lv_iconst (v := nI 4) hx hb dPR_part_21 (by decide +kernel) ?_
      refine vp_callSi (W.runS (As := [.int c0, .int (nI 1), .int (nI 4)]) (rest := []) ⟨hx, hb, hml, hown, hts⟩ (k_PacketRows_isWithin l dC dI cI cZ cL c0 (nI 1) (nI 4) ) (va_cwS 3 hts (gS u_965 u_920 u_40 u_921) rfl rfl rfl (by decide +kernel) ⟨Nat.le_of_ble_eq_true rfl, Nat.le_of_ble_eq_true rfl⟩) (q_preP hK hZ hP [] rfl) rfl rfl hl.1 rfl (lv_room (Nat.le_of_ble_eq_true rfl)) dPR_part_22 ⟨Nat.le_of_ble_eq_true rfl, Nat.le_of_ble_eq_true rfl⟩) (fun r_ er_ => ?_)
      subst er_
      refine qb_ieq (tgt := 38) hx hb dPR_part_25 (by decide) (fun c_25 => ?_) (fun c_25 => ?_)
      · exact hret 120 174 124 "no such order or ends" 38 ls (by rw [hml]; exact hl.1.symm) (hU hts u_966) (hU hts u_57) (s_174 hZ.2.1) (oat_IA hts hZ hO (hU hts u_968)) (by decide +kernel) dPR_part_38 dPR_part_41 dPR_part_42 dPR_part_44 dPR_part_47 (Nat.le_of_ble_eq_true rfl) (Nat.le_of_ble_eq_true rfl) (Nat.le_of_ble_eq_true rfl) (Nat.le_of_ble_eq_true rfl)
      · refine lv_iload hx hb dPR_part_28 (lv_at hl 4 rfl) ?_
        refine lv_iconst (v := nI 1) hx hb dPR_part_30 (by decide +kernel) ?_
        refine lv_iconst (v := nI 3) hx hb dPR_part_31 (by decide +kernel) ?_
        refine vp_callSi (W.runS (As := [.int d0, .int (nI 1), .int (nI 3)]) (rest := []) ⟨hx, hb, hml, hown, hts⟩ (k_PacketRows_isWithin l dC dI cI cZ cL d0 (nI 1) (nI 3) ) (va_cwS 3 hts (gS u_965 u_920 u_40 u_921) rfl rfl rfl (by decide +kernel) ⟨Nat.le_of_ble_eq_true rfl, Nat.le_of_ble_eq_true rfl⟩) (q_preP hK hZ hP [] rfl) rfl rfl hl.1 rfl (lv_room (Nat.le_of_ble_eq_true rfl)) dPR_part_32 ⟨Nat.le_of_ble_eq_true rfl, Nat.le_of_ble_eq_true rfl⟩) (fun r_ er_ => ?_)
        subst er_
        refine qb_ine (tgt := 48) hx hb dPR_part_35 (by decide) (fun c_35 => ?_) (fun c_35 => ?_)
        · exact absurd c_35 (fun q => hbad ⟨of_decide_eq_true c_6, of_decide_eq_true c_16, of_decide_eq_true c_25, of_decide_eq_true q⟩)
        · exact hret 120 174 124 "no such order or ends" 38 ls (by rw [hml]; exact hl.1.symm) (hU hts u_966) (hU hts u_57) (s_174 hZ.2.1) (oat_IA hts hZ hO (hU hts u_968)) (by decide +kernel) dPR_part_38 dPR_part_41 dPR_part_42 dPR_part_44 dPR_part_47 (Nat.le_of_ble_eq_true rfl) (Nat.le_of_ble_eq_true rfl) (Nat.le_of_ble_eq_true rfl) (Nat.le_of_ble_eq_true rfl)
set_option maxHeartbeats 4000000 in
set_option maxRecDepth 100000 in
theorem k_passes_thr1 (l : Launch) (dC : Nat → ClassId) (dI : Nat → Nat → Nat) (cI cZ cL : ClassId) (x : Nat) (pi : Nat) (ab : Nat) (ap : Nat) (aw : Nat) (ah : Nat) (aq : Nat) (tr : Nat) (rr : Nat) (o : Nat) (br : Nat) (wr : Nat) (rd : Nat) (hd : Nat) (L : Nat) (Rz : Nat) (C : Nat) (cs : Nat) (co : Nat) (lf : Nat) (lr : Nat) (bd : Nat → Nat) (pr : Nat → Nat) (wd : Nat → Nat) (ht : Nat → Nat) (sta : Nat → Nat) (wt : Bool) (a b c0 : Int32) (hl0 : l.stackTraces = false) (hL : 1 ≤ L) (hbad : ¬ (nI 0 ≤ a ∧ a ≤ nI (L - 1))) :
    q_CT l (dC, dI) vwCl (tyL cI cZ cL) yPR_passes wsPR_passes (rmN 3 1 6) [.ref x, .int a, .int b, .int c0] [(x, .inr (8, [.ref pi, .ref tr, .ref rr, .ref o, .ref br, .ref wr, .ref rd, .ref hd, .int (nI cs), .int (nI co), .int (bI wt), .int (nI lf), .int (nI lr)])), (pi, .inr (3, [.int (nI L), .int (nI Rz), .ref ab, .ref ap, .ref aw, .ref ah, .ref aq, .int (nI C)])), (ab, .inl (cI, 3 * Rz, .inl (fun j => nI (bd j)))), (ap, .inl (cI, 3 * Rz, .inl (fun j => nI (pr j)))), (aw, .inl (cI, 3 * Rz, .inl (fun j => nI (wd j)))), (ah, .inl (cI, 3 * Rz, .inl (fun j => nI (ht j)))), (aq, .inl (cI, 3 * Rz + 1, .inl (fun j => nI (sta j))))] "java/lang/IndexOutOfBoundsException" := by
  refine q_entT "PacketRows" hl0 (by decide) rfl rfl (Nat.le_of_ble_eq_true rfl) ?_
  intro p e s m below meth c ls Q A hx hb hml hts hown hP hD hK hZ hO hA hS hl hret
  have hl : lv_has ls 4 [(0, .ref x), (1, .int a), (2, .int b), (3, .int c0)] := hl
  refine lv_iload_n hx hb dPR_passes_0 rfl (lv_at hl 1 rfl) ?_
  refine lv_iconst (v := nI 0) hx hb dPR_passes_1 (by decide +kernel) ?_
  refine lv_aload_n hx hb dPR_passes_2 rfl (lv_at hl 0 rfl) ?_
  refine va_get (D := (dC, dI)) (ci := 8) (v := .ref pi) (C := "PacketRows") (T := TPR) (N := 13) hx hb hts inPR hown hK hP 0 rfl rfl 0 (by decide) (hU hts u_365) (fun _ h9 => h9) rfl dPR_passes_3 ?_
  refine va_get (D := (dC, dI)) (ci := 3) (v := .int (nI L)) (C := "PacketRows$Picture") (T := TPC) (N := 8) hx hb hts inPC hown hK hP 1 rfl rfl 0 (by decide) (hU hts u_112) (fun _ h9 => h9) rfl dPR_passes_6 ?_
  refine lv_iconst (v := nI 1) hx hb dPR_passes_9 (by decide +kernel) ?_
  refine qn_isub hx hb dPR_passes_10 (by omega) ?_
  refine vp_callSi (W.runS (As := [.int a, .int (nI 0), .int (nI (L - 1))]) (rest := []) ⟨hx, hb, hml, hown, hts⟩ (k_PacketRows_isWithin l dC dI cI cZ cL a (nI 0) (nI (L - 1)) ) (va_cwS 3 hts (gS u_965 u_920 u_40 u_921) rfl rfl rfl (by decide +kernel) ⟨Nat.le_of_ble_eq_true rfl, Nat.le_of_ble_eq_true rfl⟩) (q_preP hK hZ hP [] rfl) rfl rfl hl.1 rfl (lv_room (Nat.le_of_ble_eq_true rfl)) dPR_passes_11 ⟨Nat.le_of_ble_eq_true rfl, Nat.le_of_ble_eq_true rfl⟩) (fun r_ er_ => ?_)
  subst er_
  refine qb_ine (tgt := 27) hx hb dPR_passes_14 (by decide) (fun c_14 => ?_) (fun c_14 => ?_)
  · exact absurd c_14 (by rw [decide_eq_false hbad]; decide)
  · exact hret 109 157 113 "no such layer" 17 ls (by rw [hml]; exact hl.1.symm) (hU hts u_952) (hU hts u_66) (s_157 hZ.2.1) (oat_IO hts hZ hO (hU hts u_962)) (by decide +kernel) dPR_passes_17 dPR_passes_20 dPR_passes_21 dPR_passes_23 dPR_passes_26 (Nat.le_of_ble_eq_true rfl) (Nat.le_of_ble_eq_true rfl) (Nat.le_of_ble_eq_true rfl) (Nat.le_of_ble_eq_true rfl)
set_option maxHeartbeats 4000000 in
set_option maxRecDepth 100000 in
theorem k_passes_thr2 (l : Launch) (dC : Nat → ClassId) (dI : Nat → Nat → Nat) (cI cZ cL : ClassId) (x : Nat) (pi : Nat) (ab : Nat) (ap : Nat) (aw : Nat) (ah : Nat) (aq : Nat) (tr : Nat) (rr : Nat) (o : Nat) (br : Nat) (wr : Nat) (rd : Nat) (hd : Nat) (L : Nat) (Rz : Nat) (C : Nat) (cs : Nat) (co : Nat) (lf : Nat) (lr : Nat) (bd : Nat → Nat) (pr : Nat → Nat) (wd : Nat → Nat) (ht : Nat → Nat) (sta : Nat → Nat) (wt : Bool) (a b c0 : Int32) (hl0 : l.stackTraces = false) (hL : 1 ≤ L) (hok : (nI 0 ≤ a ∧ a ≤ nI (L - 1))) (hbad : ¬ ((nI 0 ≤ b ∧ b ≤ nI 164) ∧ (nI 0 ≤ c0 ∧ c0 ≤ nI 65535))) :
    q_CT l (dC, dI) vwCl (tyL cI cZ cL) yPR_passes wsPR_passes (rmN 3 1 6) [.ref x, .int a, .int b, .int c0] [(x, .inr (8, [.ref pi, .ref tr, .ref rr, .ref o, .ref br, .ref wr, .ref rd, .ref hd, .int (nI cs), .int (nI co), .int (bI wt), .int (nI lf), .int (nI lr)])), (pi, .inr (3, [.int (nI L), .int (nI Rz), .ref ab, .ref ap, .ref aw, .ref ah, .ref aq, .int (nI C)])), (ab, .inl (cI, 3 * Rz, .inl (fun j => nI (bd j)))), (ap, .inl (cI, 3 * Rz, .inl (fun j => nI (pr j)))), (aw, .inl (cI, 3 * Rz, .inl (fun j => nI (wd j)))), (ah, .inl (cI, 3 * Rz, .inl (fun j => nI (ht j)))), (aq, .inl (cI, 3 * Rz + 1, .inl (fun j => nI (sta j))))] "java/lang/IllegalArgumentException" := by
  refine q_entT "PacketRows" hl0 (by decide) rfl rfl (Nat.le_of_ble_eq_true rfl) ?_
  intro p e s m below meth c ls Q A hx hb hml hts hown hP hD hK hZ hO hA hS hl hret
  have hl : lv_has ls 4 [(0, .ref x), (1, .int a), (2, .int b), (3, .int c0)] := hl
  refine lv_iload_n hx hb dPR_passes_0 rfl (lv_at hl 1 rfl) ?_
  refine lv_iconst (v := nI 0) hx hb dPR_passes_1 (by decide +kernel) ?_
  refine lv_aload_n hx hb dPR_passes_2 rfl (lv_at hl 0 rfl) ?_
  refine va_get (D := (dC, dI)) (ci := 8) (v := .ref pi) (C := "PacketRows") (T := TPR) (N := 13) hx hb hts inPR hown hK hP 0 rfl rfl 0 (by decide) (hU hts u_365) (fun _ h9 => h9) rfl dPR_passes_3 ?_
  refine va_get (D := (dC, dI)) (ci := 3) (v := .int (nI L)) (C := "PacketRows$Picture") (T := TPC) (N := 8) hx hb hts inPC hown hK hP 1 rfl rfl 0 (by decide) (hU hts u_112) (fun _ h9 => h9) rfl dPR_passes_6 ?_
  refine lv_iconst (v := nI 1) hx hb dPR_passes_9 (by decide +kernel) ?_
  refine qn_isub hx hb dPR_passes_10 (by omega) ?_
  refine vp_callSi (W.runS (As := [.int a, .int (nI 0), .int (nI (L - 1))]) (rest := []) ⟨hx, hb, hml, hown, hts⟩ (k_PacketRows_isWithin l dC dI cI cZ cL a (nI 0) (nI (L - 1)) ) (va_cwS 3 hts (gS u_965 u_920 u_40 u_921) rfl rfl rfl (by decide +kernel) ⟨Nat.le_of_ble_eq_true rfl, Nat.le_of_ble_eq_true rfl⟩) (q_preP hK hZ hP [] rfl) rfl rfl hl.1 rfl (lv_room (Nat.le_of_ble_eq_true rfl)) dPR_passes_11 ⟨Nat.le_of_ble_eq_true rfl, Nat.le_of_ble_eq_true rfl⟩) (fun r_ er_ => ?_)
  subst er_
  refine qb_ine (tgt := 27) hx hb dPR_passes_14 (by decide) (fun c_14 => ?_) (fun c_14 => ?_)
  · refine lv_iload_n hx hb dPR_passes_27 rfl (lv_at hl 2 rfl) ?_
    refine lv_iconst (v := nI 0) hx hb dPR_passes_28 (by decide +kernel) ?_
    refine lv_sipush (v := nI 164) hx hb dPR_passes_29 (by decide +kernel) ?_
    refine vp_callSi (W.runS (As := [.int b, .int (nI 0), .int (nI 164)]) (rest := []) ⟨hx, hb, hml, hown, hts⟩ (k_PacketRows_isWithin l dC dI cI cZ cL b (nI 0) (nI 164) ) (va_cwS 3 hts (gS u_965 u_920 u_40 u_921) rfl rfl rfl (by decide +kernel) ⟨Nat.le_of_ble_eq_true rfl, Nat.le_of_ble_eq_true rfl⟩) (q_preP hK hZ hP [] rfl) rfl rfl hl.1 rfl (lv_room (Nat.le_of_ble_eq_true rfl)) dPR_passes_32 ⟨Nat.le_of_ble_eq_true rfl, Nat.le_of_ble_eq_true rfl⟩) (fun r_ er_ => ?_)
    subst er_
    refine qb_ieq (tgt := 48) hx hb dPR_passes_35 (by decide) (fun c_35 => ?_) (fun c_35 => ?_)
    · exact hret 120 160 124 "no such passes or bytes" 48 ls (by rw [hml]; exact hl.1.symm) (hU hts u_966) (hU hts u_57) (s_160 hZ.2.1) (oat_IA hts hZ hO (hU hts u_968)) (by decide +kernel) dPR_passes_48 dPR_passes_51 dPR_passes_52 dPR_passes_54 dPR_passes_57 (Nat.le_of_ble_eq_true rfl) (Nat.le_of_ble_eq_true rfl) (Nat.le_of_ble_eq_true rfl) (Nat.le_of_ble_eq_true rfl)
    · refine lv_iload_n hx hb dPR_passes_38 rfl (lv_at hl 3 rfl) ?_
      refine lv_iconst (v := nI 0) hx hb dPR_passes_39 (by decide +kernel) ?_
      refine lv_ldc (v := nI 65535) hx hb hown (hU hts u_999) dPR_passes_40 ?_
      refine vp_callSi (W.runS (As := [.int c0, .int (nI 0), .int (nI 65535)]) (rest := []) ⟨hx, hb, hml, hown, hts⟩ (k_PacketRows_isWithin l dC dI cI cZ cL c0 (nI 0) (nI 65535) ) (va_cwS 3 hts (gS u_965 u_920 u_40 u_921) rfl rfl rfl (by decide +kernel) ⟨Nat.le_of_ble_eq_true rfl, Nat.le_of_ble_eq_true rfl⟩) (q_preP hK hZ hP [] rfl) rfl rfl hl.1 rfl (lv_room (Nat.le_of_ble_eq_true rfl)) dPR_passes_42 ⟨Nat.le_of_ble_eq_true rfl, Nat.le_of_ble_eq_true rfl⟩) (fun r_ er_ => ?_)
      subst er_
      refine qb_ine (tgt := 58) hx hb dPR_passes_45 (by decide) (fun c_45 => ?_) (fun c_45 => ?_)
      · exact absurd c_45 (fun q => hbad ⟨of_decide_eq_true c_35, of_decide_eq_true q⟩)
      · exact hret 120 160 124 "no such passes or bytes" 48 ls (by rw [hml]; exact hl.1.symm) (hU hts u_966) (hU hts u_57) (s_160 hZ.2.1) (oat_IA hts hZ hO (hU hts u_968)) (by decide +kernel) dPR_passes_48 dPR_passes_51 dPR_passes_52 dPR_passes_54 dPR_passes_57 (Nat.le_of_ble_eq_true rfl) (Nat.le_of_ble_eq_true rfl) (Nat.le_of_ble_eq_true rfl) (Nat.le_of_ble_eq_true rfl)
  · exact absurd c_14 (by rw [decide_eq_true hok]; decide)
set_option maxHeartbeats 4000000 in
set_option maxRecDepth 100000 in
theorem k_feed_thr (l : Launch) (dC : Nat → ClassId) (dI : Nat → Nat → Nat) (cI cZ cL : ClassId) (x : Nat) (pi : Nat) (tr : Nat) (rr : Nat) (o : Nat) (br : Nat) (wr : Nat) (rd : Nat) (hd : Nat) (cs : Nat) (co : Nat) (lf : Nat) (lr : Nat) (wt : Bool) (n : Int32) (v : Int64) (hl0 : l.stackTraces = false) (hbad : ¬ (nI 1 ≤ n ∧ n ≤ nI 8)) :
    q_CT l (dC, dI) vwCl (tyL cI cZ cL) yPR_feed wsPR_feed (rmN 3 1 6) [.ref x, .int n, .long v] [(x, .inr (8, [.ref pi, .ref tr, .ref rr, .ref o, .ref br, .ref wr, .ref rd, .ref hd, .int (nI cs), .int (nI co), .int (bI wt), .int (nI lf), .int (nI lr)]))] "java/lang/IllegalArgumentException" := by
  refine q_entT "PacketRows" hl0 (by decide) rfl rfl (Nat.le_of_ble_eq_true rfl) ?_
  intro p e s m below meth c ls Q A hx hb hml hts hown hP hD hK hZ hO hA hS hl hret
  have hl : lv_has ls 5 [(0, .ref x), (1, .int n), (2, .long v)] := hl
  refine lv_iload_n hx hb dPR_feed_0 rfl (lv_at hl 1 rfl) ?_
  refine lv_iconst (v := nI 1) hx hb dPR_feed_1 (by decide +kernel) ?_
  refine lv_bipush (v := nI 8) hx hb dPR_feed_2 (by decide +kernel) ?_
  refine vp_callSi (W.runS (As := [.int n, .int (nI 1), .int (nI 8)]) (rest := []) ⟨hx, hb, hml, hown, hts⟩ (k_PacketRows_isWithin l dC dI cI cZ cL n (nI 1) (nI 8) ) (va_cwS 3 hts (gS u_965 u_920 u_40 u_921) rfl rfl rfl (by decide +kernel) ⟨Nat.le_of_ble_eq_true rfl, Nat.le_of_ble_eq_true rfl⟩) (q_preP hK hZ hP [] rfl) rfl rfl hl.1 rfl (lv_room (Nat.le_of_ble_eq_true rfl)) dPR_feed_4 ⟨Nat.le_of_ble_eq_true rfl, Nat.le_of_ble_eq_true rfl⟩) (fun r_ er_ => ?_)
  subst er_
  refine qb_ine (tgt := 20) hx hb dPR_feed_7 (by decide) (fun c_7 => ?_) (fun c_7 => ?_)
  · exact absurd c_7 (by rw [decide_eq_false hbad]; decide)
  · exact hret 120 205 124 "no such n" 10 ls (by rw [hml]; exact hl.1.symm) (hU hts u_966) (hU hts u_57) (s_205 hZ.2.1) (oat_IA hts hZ hO (hU hts u_968)) (by decide +kernel) dPR_feed_10 dPR_feed_13 dPR_feed_14 dPR_feed_16 dPR_feed_19 (Nat.le_of_ble_eq_true rfl) (Nat.le_of_ble_eq_true rfl) (Nat.le_of_ble_eq_true rfl) (Nat.le_of_ble_eq_true rfl)
set_option maxHeartbeats 4000000 in
set_option maxRecDepth 100000 in
theorem k_got_thr (l : Launch) (dC : Nat → ClassId) (dI : Nat → Nat → Nat) (cI cZ cL : ClassId) (x : Nat) (pi : Nat) (ab : Nat) (ap : Nat) (aw : Nat) (ah : Nat) (aq : Nat) (tr : Nat) (rr : Nat) (o : Nat) (br : Nat) (wr : Nat) (rd : Nat) (hd : Nat) (L : Nat) (Rz : Nat) (C : Nat) (cs : Nat) (co : Nat) (lf : Nat) (lr : Nat) (bd : Nat → Nat) (pr : Nat → Nat) (wd : Nat → Nat) (ht : Nat → Nat) (sta : Nat → Nat) (wt : Bool) (a b : Int32) (hl0 : l.stackTraces = false) (hL : 1 ≤ L) (hbad : ¬ ((nI 0 ≤ a ∧ a ≤ nI (L - 1)) ∧ (nI 0 ≤ b ∧ b ≤ nI 3))) :
    q_CT l (dC, dI) vwCl (tyL cI cZ cL) yPR_got wsPR_got (rmN 3 1 6) [.ref x, .int a, .int b] [(x, .inr (8, [.ref pi, .ref tr, .ref rr, .ref o, .ref br, .ref wr, .ref rd, .ref hd, .int (nI cs), .int (nI co), .int (bI wt), .int (nI lf), .int (nI lr)])), (pi, .inr (3, [.int (nI L), .int (nI Rz), .ref ab, .ref ap, .ref aw, .ref ah, .ref aq, .int (nI C)])), (ab, .inl (cI, 3 * Rz, .inl (fun j => nI (bd j)))), (ap, .inl (cI, 3 * Rz, .inl (fun j => nI (pr j)))), (aw, .inl (cI, 3 * Rz, .inl (fun j => nI (wd j)))), (ah, .inl (cI, 3 * Rz, .inl (fun j => nI (ht j)))), (aq, .inl (cI, 3 * Rz + 1, .inl (fun j => nI (sta j))))] "java/lang/IndexOutOfBoundsException" := by
  refine q_entT "PacketRows" hl0 (by decide) rfl rfl (Nat.le_of_ble_eq_true rfl) ?_
  intro p e s m below meth c ls Q A hx hb hml hts hown hP hD hK hZ hO hA hS hl hret
  have hl : lv_has ls 5 [(0, .ref x), (1, .int a), (2, .int b)] := hl
  refine lv_iload_n hx hb dPR_got_0 rfl (lv_at hl 1 rfl) ?_
  refine lv_iconst (v := nI 0) hx hb dPR_got_1 (by decide +kernel) ?_
  refine lv_aload_n hx hb dPR_got_2 rfl (lv_at hl 0 rfl) ?_
  refine va_get (D := (dC, dI)) (ci := 8) (v := .ref pi) (C := "PacketRows") (T := TPR) (N := 13) hx hb hts inPR hown hK hP 0 rfl rfl 0 (by decide) (hU hts u_365) (fun _ h9 => h9) rfl dPR_got_3 ?_
  refine va_get (D := (dC, dI)) (ci := 3) (v := .int (nI L)) (C := "PacketRows$Picture") (T := TPC) (N := 8) hx hb hts inPC hown hK hP 1 rfl rfl 0 (by decide) (hU hts u_112) (fun _ h9 => h9) rfl dPR_got_6 ?_
  refine lv_iconst (v := nI 1) hx hb dPR_got_9 (by decide +kernel) ?_
  refine qn_isub hx hb dPR_got_10 (by omega) ?_
  refine vp_callSi (W.runS (As := [.int a, .int (nI 0), .int (nI (L - 1))]) (rest := []) ⟨hx, hb, hml, hown, hts⟩ (k_PacketRows_isWithin l dC dI cI cZ cL a (nI 0) (nI (L - 1)) ) (va_cwS 3 hts (gS u_965 u_920 u_40 u_921) rfl rfl rfl (by decide +kernel) ⟨Nat.le_of_ble_eq_true rfl, Nat.le_of_ble_eq_true rfl⟩) (q_preP hK hZ hP [] rfl) rfl rfl hl.1 rfl (lv_room (Nat.le_of_ble_eq_true rfl)) dPR_got_11 ⟨Nat.le_of_ble_eq_true rfl, Nat.le_of_ble_eq_true rfl⟩) (fun r_ er_ => ?_)
  subst er_
  refine qb_ieq (tgt := 26) hx hb dPR_got_14 (by decide) (fun c_14 => ?_) (fun c_14 => ?_)
  · exact hret 109 231 113 "no such layer or what" 26 ls (by rw [hml]; exact hl.1.symm) (hU hts u_952) (hU hts u_66) (s_231 hZ.2.1) (oat_IO hts hZ hO (hU hts u_962)) (by decide +kernel) dPR_got_26 dPR_got_29 dPR_got_30 dPR_got_32 dPR_got_35 (Nat.le_of_ble_eq_true rfl) (Nat.le_of_ble_eq_true rfl) (Nat.le_of_ble_eq_true rfl) (Nat.le_of_ble_eq_true rfl)
  · refine lv_iload_n hx hb dPR_got_17 rfl (lv_at hl 2 rfl) ?_
    refine lv_iconst (v := nI 0) hx hb dPR_got_18 (by decide +kernel) ?_
    refine lv_iconst (v := nI 3) hx hb dPR_got_19 (by decide +kernel) ?_
    refine vp_callSi (W.runS (As := [.int b, .int (nI 0), .int (nI 3)]) (rest := []) ⟨hx, hb, hml, hown, hts⟩ (k_PacketRows_isWithin l dC dI cI cZ cL b (nI 0) (nI 3) ) (va_cwS 3 hts (gS u_965 u_920 u_40 u_921) rfl rfl rfl (by decide +kernel) ⟨Nat.le_of_ble_eq_true rfl, Nat.le_of_ble_eq_true rfl⟩) (q_preP hK hZ hP [] rfl) rfl rfl hl.1 rfl (lv_room (Nat.le_of_ble_eq_true rfl)) dPR_got_20 ⟨Nat.le_of_ble_eq_true rfl, Nat.le_of_ble_eq_true rfl⟩) (fun r_ er_ => ?_)
    subst er_
    refine qb_ine (tgt := 36) hx hb dPR_got_23 (by decide) (fun c_23 => ?_) (fun c_23 => ?_)
    · exact absurd c_23 (fun q => hbad ⟨of_decide_eq_true c_14, of_decide_eq_true q⟩)
    · exact hret 109 231 113 "no such layer or what" 26 ls (by rw [hml]; exact hl.1.symm) (hU hts u_952) (hU hts u_66) (s_231 hZ.2.1) (oat_IO hts hZ hO (hU hts u_962)) (by decide +kernel) dPR_got_26 dPR_got_29 dPR_got_30 dPR_got_32 dPR_got_35 (Nat.le_of_ble_eq_true rfl) (Nat.le_of_ble_eq_true rfl) (Nat.le_of_ble_eq_true rfl) (Nat.le_of_ble_eq_true rfl)
set_option maxHeartbeats 4000000 in
set_option maxRecDepth 100000 in
theorem k_packet_thr (l : Launch) (dC : Nat → ClassId) (dI : Nat → Nat → Nat) (cI cZ cL : ClassId) (x : Nat) (pi : Nat) (tr : Nat) (rr : Nat) (o : Nat) (po : Nat) (pe : Nat) (pl : Nat) (li : Nat) (en : Nat) (ax : Nat) (br : Nat) (wr : Nat) (rd : Nat) (hd : Nat) (L : Nat) (Rz : Nat) (pts : Nat) (cs : Nat) (co : Nat) (lf : Nat) (lr : Nat) (fo : Nat → Nat) (fe : Nat → Nat) (fn : Nat → Nat) (X : lS) (wt : Bool) (a b : Int32) (hl0 : l.stackTraces = false) (hbad : ¬ ((nI 0 ≤ a ∧ a ≤ nI X.2.1 - nI 1) ∧ (nI 0 ≤ b ∧ b ≤ nI 4))) :
    q_CT l (dC, dI) vwCl (tyL cI cZ cL) yPR_packet wsPR_packet (rmN 3 1 6) [.ref x, .int a, .int b] [(x, .inr (8, [.ref pi, .ref tr, .ref rr, .ref o, .ref br, .ref wr, .ref rd, .ref hd, .int (nI cs), .int (nI co), .int (bI wt), .int (nI lf), .int (nI lr)])), (o, .inr (2, [.ref pi, .ref po, .ref pe, .ref pl, .ref li, .ref en, .ref ax, .int (nI pts), .int (nI X.2.1)])), (po, .inl (cI, 6, .inl (fun j => nI (fo j)))), (pe, .inl (cI, 18, .inl (fun j => nI (fe j)))), (pl, .inl (cI, L * Rz * 3 * 4 * 4, .inl (fun j => nI (X.2.2.1 j)))), (li, .inl (cZ, L * Rz * 3 * 4, .inl (fun j => bI (X.2.2.2 j)))), (en, .inl (cI, 4, .inl (fun j => nI (fn j)))), (ax, .inl (cI, 4, .inl (fun j => nI (X.1 j))))] "java/lang/IndexOutOfBoundsException" := by
  refine q_entT "PacketRows" hl0 (by decide) rfl rfl (Nat.le_of_ble_eq_true rfl) ?_
  intro p e s m below meth c ls Q A hx hb hml hts hown hP hD hK hZ hO hA hS hl hret
  have hl : lv_has ls 3 [(0, .ref x), (1, .int a), (2, .int b)] := hl
  refine lv_iload_n hx hb dPR_packet_0 rfl (lv_at hl 1 rfl) ?_
  refine lv_iconst (v := nI 0) hx hb dPR_packet_1 (by decide +kernel) ?_
  refine lv_aload_n hx hb dPR_packet_2 rfl (lv_at hl 0 rfl) ?_
  refine va_get (D := (dC, dI)) (ci := 8) (v := .ref o) (C := "PacketRows") (T := TPR) (N := 13) hx hb hts inPR hown hK hP 0 rfl rfl 3 (by decide) (hU hts u_368) (fun _ h9 => h9) rfl dPR_packet_3 ?_
  refine va_get (D := (dC, dI)) (ci := 2) (v := .int (nI X.2.1)) (C := "PacketRows$Order") (T := TOD) (N := 9) hx hb hts inOD hown hK hP 1 rfl rfl 8 (by decide) (hU hts u_198) (fun _ h9 => h9) rfl dPR_packet_6 ?_
  refine lv_iconst (v := nI 1) hx hb dPR_packet_9 (by decide +kernel) ?_
  refine lv_isub hx hb dPR_packet_10 ?_
  refine vp_callSi (W.runS (As := [.int a, .int (nI 0), .int ((nI X.2.1) - (nI 1))]) (rest := []) ⟨hx, hb, hml, hown, hts⟩ (k_PacketRows_isWithin l dC dI cI cZ cL a (nI 0) ((nI X.2.1) - (nI 1)) ) (va_cwS 3 hts (gS u_965 u_920 u_40 u_921) rfl rfl rfl (by decide +kernel) ⟨Nat.le_of_ble_eq_true rfl, Nat.le_of_ble_eq_true rfl⟩) (q_preP hK hZ hP [] rfl) rfl rfl hl.1 rfl (lv_room (Nat.le_of_ble_eq_true rfl)) dPR_packet_11 ⟨Nat.le_of_ble_eq_true rfl, Nat.le_of_ble_eq_true rfl⟩) (fun r_ er_ => ?_)
  subst er_
  refine qb_ieq (tgt := 26) hx hb dPR_packet_14 (by decide) (fun c_14 => ?_) (fun c_14 => ?_)
  · exact hret 109 185 113 "no such packet or what" 26 ls (by rw [hml]; exact hl.1.symm) (hU hts u_952) (hU hts u_66) (s_185 hZ.2.1) (oat_IO hts hZ hO (hU hts u_962)) (by decide +kernel) dPR_packet_26 dPR_packet_29 dPR_packet_30 dPR_packet_32 dPR_packet_35 (Nat.le_of_ble_eq_true rfl) (Nat.le_of_ble_eq_true rfl) (Nat.le_of_ble_eq_true rfl) (Nat.le_of_ble_eq_true rfl)
  · refine lv_iload_n hx hb dPR_packet_17 rfl (lv_at hl 2 rfl) ?_
    refine lv_iconst (v := nI 0) hx hb dPR_packet_18 (by decide +kernel) ?_
    refine lv_iconst (v := nI 4) hx hb dPR_packet_19 (by decide +kernel) ?_
    refine vp_callSi (W.runS (As := [.int b, .int (nI 0), .int (nI 4)]) (rest := []) ⟨hx, hb, hml, hown, hts⟩ (k_PacketRows_isWithin l dC dI cI cZ cL b (nI 0) (nI 4) ) (va_cwS 3 hts (gS u_965 u_920 u_40 u_921) rfl rfl rfl (by decide +kernel) ⟨Nat.le_of_ble_eq_true rfl, Nat.le_of_ble_eq_true rfl⟩) (q_preP hK hZ hP [] rfl) rfl rfl hl.1 rfl (lv_room (Nat.le_of_ble_eq_true rfl)) dPR_packet_20 ⟨Nat.le_of_ble_eq_true rfl, Nat.le_of_ble_eq_true rfl⟩) (fun r_ er_ => ?_)
    subst er_
    refine qb_ine (tgt := 36) hx hb dPR_packet_23 (by decide) (fun c_23 => ?_) (fun c_23 => ?_)
    · exact absurd c_23 (fun q => hbad ⟨of_decide_eq_true c_14, of_decide_eq_true q⟩)
    · exact hret 109 185 113 "no such packet or what" 26 ls (by rw [hml]; exact hl.1.symm) (hU hts u_952) (hU hts u_66) (s_185 hZ.2.1) (oat_IO hts hZ hO (hU hts u_962)) (by decide +kernel) dPR_packet_26 dPR_packet_29 dPR_packet_30 dPR_packet_32 dPR_packet_35 (Nat.le_of_ble_eq_true rfl) (Nat.le_of_ble_eq_true rfl) (Nat.le_of_ble_eq_true rfl) (Nat.le_of_ble_eq_true rfl)
set_option maxHeartbeats 4000000 in
set_option maxRecDepth 100000 in
theorem k_told_thr (l : Launch) (dC : Nat → ClassId) (dI : Nat → Nat → Nat) (cI cZ cL : ClassId) (x : Nat) (pi : Nat) (tr : Nat) (rr : Nat) (o : Nat) (br : Nat) (wr : Nat) (rd : Nat) (hd : Nat) (cs : Nat) (co : Nat) (lf : Nat) (lr : Nat) (wt : Bool) (a : Int32) (hl0 : l.stackTraces = false) (hbad : a.toInt < 0 ∨ 5 < a.toInt) :
    q_CT l (dC, dI) vwCl (tyL cI cZ cL) yPR_told wsPR_told (rmN 3 1 6) [.ref x, .int a] [(x, .inr (8, [.ref pi, .ref tr, .ref rr, .ref o, .ref br, .ref wr, .ref rd, .ref hd, .int (nI cs), .int (nI co), .int (bI wt), .int (nI lf), .int (nI lr)]))] "java/lang/IndexOutOfBoundsException" := by
  refine q_entT "PacketRows" hl0 (by decide) rfl rfl (Nat.le_of_ble_eq_true rfl) ?_
  intro p e s m below meth c ls Q A hx hb hml hts hown hP hD hK hZ hO hA hS hl hret
  have hl : lv_has ls 2 [(0, .ref x), (1, .int a)] := hl
  refine lv_iload_n hx hb dPR_told_0 rfl (lv_at hl 1 rfl) ?_
  refine lv_tableOut (x := a) (tgt := 82) hx hb dPR_told_1 hbad (by decide +kernel) ?_
  exact hret 109 242 113 "no such what" 82 ls (by rw [hml]; exact hl.1.symm) (hU hts u_952) (hU hts u_66) (s_242 hZ.2.1) (oat_IO hts hZ hO (hU hts u_962)) (by decide +kernel) dPR_told_82 dPR_told_85 dPR_told_86 dPR_told_88 dPR_told_91 (Nat.le_of_ble_eq_true rfl) (Nat.le_of_ble_eq_true rfl) (Nat.le_of_ble_eq_true rfl) (Nat.le_of_ble_eq_true rfl)
set_option maxHeartbeats 4000000 in
set_option maxRecDepth 100000 in
theorem k_grid_thr1 (l : Launch) (dC : Nat → ClassId) (dI : Nat → Nat → Nat) (cI cZ cL : ClassId) (x : Nat) (pi : Nat) (ab : Nat) (ap : Nat) (aw : Nat) (ah : Nat) (aq : Nat) (tr : Nat) (rr : Nat) (o : Nat) (br : Nat) (wr : Nat) (rd : Nat) (hd : Nat) (L : Nat) (Rz : Nat) (C : Nat) (cs : Nat) (co : Nat) (lf : Nat) (lr : Nat) (bd : Nat → Nat) (pr : Nat → Nat) (wd : Nat → Nat) (ht : Nat → Nat) (sta : Nat → Nat) (wt : Bool) (a b c0 d0 e0 : Int32) (hl0 : l.stackTraces = false) (h1 : 1 ≤ C) (h2 : 1 ≤ Rz) (hbad : m_slotOf C Rz a b = -1) :
    q_CT l (dC, dI) vwCl (tyL cI cZ cL) yPR_grid wsPR_grid (rmN 3 1 6) [.ref x, .int a, .int b, .int c0, .int d0, .int e0] [(x, .inr (8, [.ref pi, .ref tr, .ref rr, .ref o, .ref br, .ref wr, .ref rd, .ref hd, .int (nI cs), .int (nI co), .int (bI wt), .int (nI lf), .int (nI lr)])), (pi, .inr (3, [.int (nI L), .int (nI Rz), .ref ab, .ref ap, .ref aw, .ref ah, .ref aq, .int (nI C)])), (ab, .inl (cI, 3 * Rz, .inl (fun j => nI (bd j)))), (ap, .inl (cI, 3 * Rz, .inl (fun j => nI (pr j)))), (aw, .inl (cI, 3 * Rz, .inl (fun j => nI (wd j)))), (ah, .inl (cI, 3 * Rz, .inl (fun j => nI (ht j)))), (aq, .inl (cI, 3 * Rz + 1, .inl (fun j => nI (sta j))))] "java/lang/IndexOutOfBoundsException" := by
  refine q_entT "PacketRows" hl0 (by decide) rfl rfl (Nat.le_of_ble_eq_true rfl) ?_
  intro p e s m below meth c ls Q A hx hb hml hts hown hP hD hK hZ hO hA hS hl hret
  have hl : lv_has ls 10 [(0, .ref x), (1, .int a), (2, .int b), (3, .int c0), (4, .int d0), (5, .int e0)] := hl
  refine lv_aload_n hx hb dPR_grid_0 rfl (lv_at hl 0 rfl) ?_
  refine va_get (D := (dC, dI)) (ci := 8) (v := .ref pi) (C := "PacketRows") (T := TPR) (N := 13) hx hb hts inPR hown hK hP 0 rfl rfl 0 (by decide) (hU hts u_365) (fun _ h9 => h9) rfl dPR_grid_1 ?_
  refine lv_iload_n hx hb dPR_grid_4 rfl (lv_at hl 1 rfl) ?_
  refine lv_iload_n hx hb dPR_grid_5 rfl (lv_at hl 2 rfl) ?_
  refine vp_callSi (W.runV (As := [.int a, .int b]) (rest := []) ⟨hx, hb, hml, hown, hts⟩ (k_Picture_slotOf l dC dI cI cZ cL pi ab ap aw ah aq L Rz C (3 * Rz) bd pr wd ht sta a b h1 h2) (cwV 2 hts (gV u_947 u_948 u_949 u_41 u_950) rfl rfl rfl (by decide +kernel) ⟨Nat.le_of_ble_eq_true rfl, Nat.le_of_ble_eq_true rfl⟩) (q_prePV hK hZ hP [1, 2, 3, 4, 5, 6] rfl rfl rfl) rfl rfl hl.1 rfl (lv_room (Nat.le_of_ble_eq_true rfl)) dPR_grid_6 ⟨Nat.le_of_ble_eq_true rfl, Nat.le_of_ble_eq_true rfl⟩) (fun r_ er_ => ?_)
  subst er_
  refine lv_istore (lv' := [(6, .int (m_slotOf C Rz a b)), (0, .ref x), (1, .int a), (2, .int b), (3, .int c0), (4, .int d0), (5, .int e0)]) hx hb dPR_grid_9 hl (by decide) rfl (fun ls hl => ?_)
  refine lv_iload hx hb dPR_grid_11 (lv_at hl 0 rfl) ?_
  refine lv_iconst (v := (-1)) hx hb dPR_grid_13 (by decide +kernel) ?_
  refine lv_icmp_ne (tgt := 27) hx hb dPR_grid_14 (by decide) (fun c_14 => ?_) (fun c_14 => ?_)
  · exact absurd c_14 (fun q => q hbad)
  · exact hret 109 111 113 "no such component or resolution" 17 ls (by rw [hml]; exact hl.1.symm) (hU hts u_952) (hU hts u_66) (s_111 hZ.2.1) (oat_IO hts hZ hO (hU hts u_962)) (by decide +kernel) dPR_grid_17 dPR_grid_20 dPR_grid_21 dPR_grid_23 dPR_grid_26 (Nat.le_of_ble_eq_true rfl) (Nat.le_of_ble_eq_true rfl) (Nat.le_of_ble_eq_true rfl) (Nat.le_of_ble_eq_true rfl)
set_option maxHeartbeats 4000000 in
set_option maxRecDepth 100000 in
theorem k_choose_thr1 (l : Launch) (dC : Nat → ClassId) (dI : Nat → Nat → Nat) (cI cZ cL : ClassId) (x : Nat) (pi : Nat) (ab : Nat) (ap : Nat) (aw : Nat) (ah : Nat) (aq : Nat) (tr : Nat) (rr : Nat) (o : Nat) (br : Nat) (wr : Nat) (rd : Nat) (hd : Nat) (L : Nat) (Rz : Nat) (C : Nat) (cs : Nat) (co : Nat) (lf : Nat) (lr : Nat) (bd : Nat → Nat) (pr : Nat → Nat) (wd : Nat → Nat) (ht : Nat → Nat) (sta : Nat → Nat) (wt : Bool) (a b c0 d0 e0 : Int32) (hl0 : l.stackTraces = false) (h1 : 1 ≤ C) (h2 : 1 ≤ Rz) (hbad : m_slotOf C Rz a b = -1) :
    q_CT l (dC, dI) vwCl (tyL cI cZ cL) yPR_choose wsPR_choose (rmN 3 1 6) [.ref x, .int a, .int b, .int c0, .int d0, .int e0] [(x, .inr (8, [.ref pi, .ref tr, .ref rr, .ref o, .ref br, .ref wr, .ref rd, .ref hd, .int (nI cs), .int (nI co), .int (bI wt), .int (nI lf), .int (nI lr)])), (pi, .inr (3, [.int (nI L), .int (nI Rz), .ref ab, .ref ap, .ref aw, .ref ah, .ref aq, .int (nI C)])), (ab, .inl (cI, 3 * Rz, .inl (fun j => nI (bd j)))), (ap, .inl (cI, 3 * Rz, .inl (fun j => nI (pr j)))), (aw, .inl (cI, 3 * Rz, .inl (fun j => nI (wd j)))), (ah, .inl (cI, 3 * Rz, .inl (fun j => nI (ht j)))), (aq, .inl (cI, 3 * Rz + 1, .inl (fun j => nI (sta j))))] "java/lang/IndexOutOfBoundsException" := by
  refine q_entT "PacketRows" hl0 (by decide) rfl rfl (Nat.le_of_ble_eq_true rfl) ?_
  intro p e s m below meth c ls Q A hx hb hml hts hown hP hD hK hZ hO hA hS hl hret
  have hl : lv_has ls 7 [(0, .ref x), (1, .int a), (2, .int b), (3, .int c0), (4, .int d0), (5, .int e0)] := hl
  refine lv_aload_n hx hb dPR_choose_0 rfl (lv_at hl 0 rfl) ?_
  refine va_get (D := (dC, dI)) (ci := 8) (v := .ref pi) (C := "PacketRows") (T := TPR) (N := 13) hx hb hts inPR hown hK hP 0 rfl rfl 0 (by decide) (hU hts u_365) (fun _ h9 => h9) rfl dPR_choose_1 ?_
  refine lv_iload_n hx hb dPR_choose_4 rfl (lv_at hl 1 rfl) ?_
  refine lv_iload_n hx hb dPR_choose_5 rfl (lv_at hl 2 rfl) ?_
  refine vp_callSi (W.runV (As := [.int a, .int b]) (rest := []) ⟨hx, hb, hml, hown, hts⟩ (k_Picture_slotOf l dC dI cI cZ cL pi ab ap aw ah aq L Rz C (3 * Rz) bd pr wd ht sta a b h1 h2) (cwV 2 hts (gV u_947 u_948 u_949 u_41 u_950) rfl rfl rfl (by decide +kernel) ⟨Nat.le_of_ble_eq_true rfl, Nat.le_of_ble_eq_true rfl⟩) (q_prePV hK hZ hP [1, 2, 3, 4, 5, 6] rfl rfl rfl) rfl rfl hl.1 rfl (lv_room (Nat.le_of_ble_eq_true rfl)) dPR_choose_6 ⟨Nat.le_of_ble_eq_true rfl, Nat.le_of_ble_eq_true rfl⟩) (fun r_ er_ => ?_)
  subst er_
  refine lv_istore (lv' := [(6, .int (m_slotOf C Rz a b)), (0, .ref x), (1, .int a), (2, .int b), (3, .int c0), (4, .int d0), (5, .int e0)]) hx hb dPR_choose_9 hl (by decide) rfl (fun ls hl => ?_)
  refine lv_iload hx hb dPR_choose_11 (lv_at hl 0 rfl) ?_
  refine lv_iconst (v := (-1)) hx hb dPR_choose_13 (by decide +kernel) ?_
  refine lv_icmp_eq (tgt := 34) hx hb dPR_choose_14 (by decide) (fun c_14 => ?_) (fun c_14 => ?_)
  · exact hret 109 149 113 "no such block" 34 ls (by rw [hml]; exact hl.1.symm) (hU hts u_952) (hU hts u_66) (s_149 hZ.2.1) (oat_IO hts hZ hO (hU hts u_962)) (by decide +kernel) dPR_choose_34 dPR_choose_37 dPR_choose_38 dPR_choose_40 dPR_choose_43 (Nat.le_of_ble_eq_true rfl) (Nat.le_of_ble_eq_true rfl) (Nat.le_of_ble_eq_true rfl) (Nat.le_of_ble_eq_true rfl)
  · exact absurd c_14 (fun q => q hbad)
set_option maxHeartbeats 4000000 in
set_option maxRecDepth 100000 in
theorem k_grid_thr2 (l : Launch) (dC : Nat → ClassId) (dI : Nat → Nat → Nat) (cI cZ cL : ClassId) (x : Nat) (pi : Nat) (ab : Nat) (ap : Nat) (aw : Nat) (ah : Nat) (aq : Nat) (tr : Nat) (rr : Nat) (o : Nat) (br : Nat) (wr : Nat) (rd : Nat) (hd : Nat) (L : Nat) (Rz : Nat) (C : Nat) (cs : Nat) (co : Nat) (lf : Nat) (lr : Nat) (bd : Nat → Nat) (pr : Nat → Nat) (wd : Nat → Nat) (ht : Nat → Nat) (sta : Nat → Nat) (wt : Bool) (a b : Nat) (c0 d0 e0 : Int32) (hl0 : l.stackTraces = false) (h1 : 1 ≤ C) (h2 : 1 ≤ Rz) (ha : a < C) (hb9 : b < Rz) (hc9 : C ≤ 3) (hr9 : Rz ≤ 4) (hbad : ¬ ((nI 1 ≤ c0 ∧ c0 ≤ nI 4) ∧ (nI 1 ≤ d0 ∧ d0 ≤ nI 4) ∧ (nI 1 ≤ e0 ∧ e0 ≤ nI 3))) :
    q_CT l (dC, dI) vwCl (tyL cI cZ cL) yPR_grid wsPR_grid (rmN 3 1 6) [.ref x, .int (nI a), .int (nI b), .int c0, .int d0, .int e0] [(x, .inr (8, [.ref pi, .ref tr, .ref rr, .ref o, .ref br, .ref wr, .ref rd, .ref hd, .int (nI cs), .int (nI co), .int (bI wt), .int (nI lf), .int (nI lr)])), (pi, .inr (3, [.int (nI L), .int (nI Rz), .ref ab, .ref ap, .ref aw, .ref ah, .ref aq, .int (nI C)])), (ab, .inl (cI, 3 * Rz, .inl (fun j => nI (bd j)))), (ap, .inl (cI, 3 * Rz, .inl (fun j => nI (pr j)))), (aw, .inl (cI, 3 * Rz, .inl (fun j => nI (wd j)))), (ah, .inl (cI, 3 * Rz, .inl (fun j => nI (ht j)))), (aq, .inl (cI, 3 * Rz + 1, .inl (fun j => nI (sta j))))] "java/lang/IllegalArgumentException" := by
  refine q_entT "PacketRows" hl0 (by decide) rfl rfl (Nat.le_of_ble_eq_true rfl) ?_
  intro p e s m below meth c ls Q A hx hb hml hts hown hP hD hK hZ hO hA hS hl hret
  have hl : lv_has ls 10 [(0, .ref x), (1, .int (nI a)), (2, .int (nI b)), (3, .int c0), (4, .int d0), (5, .int e0)] := hl
  have hsl : a * Rz + b < 3 * Rz := m_in (show a < 3 by omega) hb9
  refine lv_aload_n hx hb dPR_grid_0 rfl (lv_at hl 0 rfl) ?_
  refine va_get (D := (dC, dI)) (ci := 8) (v := .ref pi) (C := "PacketRows") (T := TPR) (N := 13) hx hb hts inPR hown hK hP 0 rfl rfl 0 (by decide) (hU hts u_365) (fun _ h9 => h9) rfl dPR_grid_1 ?_
  refine lv_iload_n hx hb dPR_grid_4 rfl (lv_at hl 1 rfl) ?_
  refine lv_iload_n hx hb dPR_grid_5 rfl (lv_at hl 2 rfl) ?_
  refine vp_callSi (W.runV (As := [.int (nI a), .int (nI b)]) (rest := []) ⟨hx, hb, hml, hown, hts⟩ (k_Picture_slotOf l dC dI cI cZ cL pi ab ap aw ah aq L Rz C (3 * Rz) bd pr wd ht sta (nI a) (nI b) h1 h2) (cwV 2 hts (gV u_947 u_948 u_949 u_41 u_950) rfl rfl rfl (by decide +kernel) ⟨Nat.le_of_ble_eq_true rfl, Nat.le_of_ble_eq_true rfl⟩) (q_prePV hK hZ hP [1, 2, 3, 4, 5, 6] rfl rfl rfl) rfl rfl hl.1 rfl (lv_room (Nat.le_of_ble_eq_true rfl)) dPR_grid_6 ⟨Nat.le_of_ble_eq_true rfl, Nat.le_of_ble_eq_true rfl⟩) (fun r_ er_ => ?_)
  subst er_
  refine qn_eq (y := nI (a * Rz + b)) (m_slotOf_ok ha hb9 hc9 hr9) ?_
  refine lv_istore (lv' := [(6, .int (nI (a * Rz + b))), (0, .ref x), (1, .int (nI a)), (2, .int (nI b)), (3, .int c0), (4, .int d0), (5, .int e0)]) hx hb dPR_grid_9 hl (by decide) rfl (fun ls hl => ?_)
  refine lv_iload hx hb dPR_grid_11 (lv_at hl 0 rfl) ?_
  refine lv_iconst (v := (-1)) hx hb dPR_grid_13 (by decide +kernel) ?_
  refine lv_icmp_ne (tgt := 27) hx hb dPR_grid_14 (by decide) (fun c_14 => ?_) (fun c_14 => ?_)
  · refine lv_iload_n hx hb dPR_grid_27 rfl (lv_at hl 4 rfl) ?_
    refine lv_iconst (v := nI 1) hx hb dPR_grid_28 (by decide +kernel) ?_
    refine lv_iconst (v := nI 4) hx hb dPR_grid_29 (by decide +kernel) ?_
    refine vp_callSi (W.runS (As := [.int c0, .int (nI 1), .int (nI 4)]) (rest := []) ⟨hx, hb, hml, hown, hts⟩ (k_PacketRows_isWithin l dC dI cI cZ cL c0 (nI 1) (nI 4) ) (va_cwS 3 hts (gS u_965 u_920 u_40 u_921) rfl rfl rfl (by decide +kernel) ⟨Nat.le_of_ble_eq_true rfl, Nat.le_of_ble_eq_true rfl⟩) (q_preP hK hZ hP [] rfl) rfl rfl hl.1 rfl (lv_room (Nat.le_of_ble_eq_true rfl)) dPR_grid_30 ⟨Nat.le_of_ble_eq_true rfl, Nat.le_of_ble_eq_true rfl⟩) (fun r_ er_ => ?_)
    subst er_
    refine qb_ieq (tgt := 56) hx hb dPR_grid_33 (by decide) (fun c_33 => ?_) (fun c_33 => ?_)
    · exact hret 120 122 124 "no such precincts, width or height" 56 ls (by rw [hml]; exact hl.1.symm) (hU hts u_966) (hU hts u_57) (s_122 hZ.2.1) (oat_IA hts hZ hO (hU hts u_968)) (by decide +kernel) dPR_grid_56 dPR_grid_59 dPR_grid_60 dPR_grid_62 dPR_grid_65 (Nat.le_of_ble_eq_true rfl) (Nat.le_of_ble_eq_true rfl) (Nat.le_of_ble_eq_true rfl) (Nat.le_of_ble_eq_true rfl)
    · refine lv_iload hx hb dPR_grid_36 (lv_at hl 5 rfl) ?_
      refine lv_iconst (v := nI 1) hx hb dPR_grid_38 (by decide +kernel) ?_
      refine lv_iconst (v := nI 4) hx hb dPR_grid_39 (by decide +kernel) ?_
      refine vp_callSi (W.runS (As := [.int d0, .int (nI 1), .int (nI 4)]) (rest := []) ⟨hx, hb, hml, hown, hts⟩ (k_PacketRows_isWithin l dC dI cI cZ cL d0 (nI 1) (nI 4) ) (va_cwS 3 hts (gS u_965 u_920 u_40 u_921) rfl rfl rfl (by decide +kernel) ⟨Nat.le_of_ble_eq_true rfl, Nat.le_of_ble_eq_true rfl⟩) (q_preP hK hZ hP [] rfl) rfl rfl hl.1 rfl (lv_room (Nat.le_of_ble_eq_true rfl)) dPR_grid_40 ⟨Nat.le_of_ble_eq_true rfl, Nat.le_of_ble_eq_true rfl⟩) (fun r_ er_ => ?_)
      subst er_
      refine qb_ieq (tgt := 56) hx hb dPR_grid_43 (by decide) (fun c_43 => ?_) (fun c_43 => ?_)
      · exact hret 120 122 124 "no such precincts, width or height" 56 ls (by rw [hml]; exact hl.1.symm) (hU hts u_966) (hU hts u_57) (s_122 hZ.2.1) (oat_IA hts hZ hO (hU hts u_968)) (by decide +kernel) dPR_grid_56 dPR_grid_59 dPR_grid_60 dPR_grid_62 dPR_grid_65 (Nat.le_of_ble_eq_true rfl) (Nat.le_of_ble_eq_true rfl) (Nat.le_of_ble_eq_true rfl) (Nat.le_of_ble_eq_true rfl)
      · refine lv_iload hx hb dPR_grid_46 (lv_at hl 6 rfl) ?_
        refine lv_iconst (v := nI 1) hx hb dPR_grid_48 (by decide +kernel) ?_
        refine lv_iconst (v := nI 3) hx hb dPR_grid_49 (by decide +kernel) ?_
        refine vp_callSi (W.runS (As := [.int e0, .int (nI 1), .int (nI 3)]) (rest := []) ⟨hx, hb, hml, hown, hts⟩ (k_PacketRows_isWithin l dC dI cI cZ cL e0 (nI 1) (nI 3) ) (va_cwS 3 hts (gS u_965 u_920 u_40 u_921) rfl rfl rfl (by decide +kernel) ⟨Nat.le_of_ble_eq_true rfl, Nat.le_of_ble_eq_true rfl⟩) (q_preP hK hZ hP [] rfl) rfl rfl hl.1 rfl (lv_room (Nat.le_of_ble_eq_true rfl)) dPR_grid_50 ⟨Nat.le_of_ble_eq_true rfl, Nat.le_of_ble_eq_true rfl⟩) (fun r_ er_ => ?_)
        subst er_
        refine qb_ine (tgt := 66) hx hb dPR_grid_53 (by decide) (fun c_53 => ?_) (fun c_53 => ?_)
        · exact absurd c_53 (fun q => hbad ⟨of_decide_eq_true c_33, of_decide_eq_true c_43, of_decide_eq_true q⟩)
        · exact hret 120 122 124 "no such precincts, width or height" 56 ls (by rw [hml]; exact hl.1.symm) (hU hts u_966) (hU hts u_57) (s_122 hZ.2.1) (oat_IA hts hZ hO (hU hts u_968)) (by decide +kernel) dPR_grid_56 dPR_grid_59 dPR_grid_60 dPR_grid_62 dPR_grid_65 (Nat.le_of_ble_eq_true rfl) (Nat.le_of_ble_eq_true rfl) (Nat.le_of_ble_eq_true rfl) (Nat.le_of_ble_eq_true rfl)
  · exact absurd c_14 (nI_nm9 (by omega))
set_option maxHeartbeats 4000000 in
set_option maxRecDepth 100000 in
theorem k_choose_thr2 (l : Launch) (dC : Nat → ClassId) (dI : Nat → Nat → Nat) (cI cZ cL : ClassId) (x : Nat) (pi : Nat) (ab : Nat) (ap : Nat) (aw : Nat) (ah : Nat) (aq : Nat) (tr : Nat) (rr : Nat) (o : Nat) (br : Nat) (wr : Nat) (rd : Nat) (hd : Nat) (L : Nat) (Rz : Nat) (C : Nat) (cs : Nat) (co : Nat) (lf : Nat) (lr : Nat) (bd : Nat → Nat) (pr : Nat → Nat) (wd : Nat → Nat) (ht : Nat → Nat) (sta : Nat → Nat) (wt : Bool) (a b : Nat) (c0 d0 e0 : Int32) (hl0 : l.stackTraces = false) (h1 : 1 ≤ C) (h2 : 1 ≤ Rz) (ha : a < C) (hb9 : b < Rz) (hc9 : C ≤ 3) (hr9 : Rz ≤ 4) (p1 : 1 ≤ pr (a * Rz + b)) (p2 : 1 ≤ bd (a * Rz + b)) (p3 : 1 ≤ wd (a * Rz + b) * ht (a * Rz + b)) (hbad : m_has (pr (a * Rz + b)) (bd (a * Rz + b)) (wd (a * Rz + b) * ht (a * Rz + b)) c0 d0 e0 = false) :
    q_CT l (dC, dI) vwCl (tyL cI cZ cL) yPR_choose wsPR_choose (rmN 3 1 6) [.ref x, .int (nI a), .int (nI b), .int c0, .int d0, .int e0] [(x, .inr (8, [.ref pi, .ref tr, .ref rr, .ref o, .ref br, .ref wr, .ref rd, .ref hd, .int (nI cs), .int (nI co), .int (bI wt), .int (nI lf), .int (nI lr)])), (pi, .inr (3, [.int (nI L), .int (nI Rz), .ref ab, .ref ap, .ref aw, .ref ah, .ref aq, .int (nI C)])), (ab, .inl (cI, 3 * Rz, .inl (fun j => nI (bd j)))), (ap, .inl (cI, 3 * Rz, .inl (fun j => nI (pr j)))), (aw, .inl (cI, 3 * Rz, .inl (fun j => nI (wd j)))), (ah, .inl (cI, 3 * Rz, .inl (fun j => nI (ht j)))), (aq, .inl (cI, 3 * Rz + 1, .inl (fun j => nI (sta j))))] "java/lang/IndexOutOfBoundsException" := by
  refine q_entT "PacketRows" hl0 (by decide) rfl rfl (Nat.le_of_ble_eq_true rfl) ?_
  intro p e s m below meth c ls Q A hx hb hml hts hown hP hD hK hZ hO hA hS hl hret
  have hl : lv_has ls 7 [(0, .ref x), (1, .int (nI a)), (2, .int (nI b)), (3, .int c0), (4, .int d0), (5, .int e0)] := hl
  have hsl : a * Rz + b < 3 * Rz := m_in (show a < 3 by omega) hb9
  refine lv_aload_n hx hb dPR_choose_0 rfl (lv_at hl 0 rfl) ?_
  refine va_get (D := (dC, dI)) (ci := 8) (v := .ref pi) (C := "PacketRows") (T := TPR) (N := 13) hx hb hts inPR hown hK hP 0 rfl rfl 0 (by decide) (hU hts u_365) (fun _ h9 => h9) rfl dPR_choose_1 ?_
  refine lv_iload_n hx hb dPR_choose_4 rfl (lv_at hl 1 rfl) ?_
  refine lv_iload_n hx hb dPR_choose_5 rfl (lv_at hl 2 rfl) ?_
  refine vp_callSi (W.runV (As := [.int (nI a), .int (nI b)]) (rest := []) ⟨hx, hb, hml, hown, hts⟩ (k_Picture_slotOf l dC dI cI cZ cL pi ab ap aw ah aq L Rz C (3 * Rz) bd pr wd ht sta (nI a) (nI b) h1 h2) (cwV 2 hts (gV u_947 u_948 u_949 u_41 u_950) rfl rfl rfl (by decide +kernel) ⟨Nat.le_of_ble_eq_true rfl, Nat.le_of_ble_eq_true rfl⟩) (q_prePV hK hZ hP [1, 2, 3, 4, 5, 6] rfl rfl rfl) rfl rfl hl.1 rfl (lv_room (Nat.le_of_ble_eq_true rfl)) dPR_choose_6 ⟨Nat.le_of_ble_eq_true rfl, Nat.le_of_ble_eq_true rfl⟩) (fun r_ er_ => ?_)
  subst er_
  refine qn_eq (y := nI (a * Rz + b)) (m_slotOf_ok ha hb9 hc9 hr9) ?_
  refine lv_istore (lv' := [(6, .int (nI (a * Rz + b))), (0, .ref x), (1, .int (nI a)), (2, .int (nI b)), (3, .int c0), (4, .int d0), (5, .int e0)]) hx hb dPR_choose_9 hl (by decide) rfl (fun ls hl => ?_)
  refine lv_iload hx hb dPR_choose_11 (lv_at hl 0 rfl) ?_
  refine lv_iconst (v := (-1)) hx hb dPR_choose_13 (by decide +kernel) ?_
  refine lv_icmp_eq (tgt := 34) hx hb dPR_choose_14 (by decide) (fun c_14 => ?_) (fun c_14 => ?_)
  · exact absurd c_14 (nI_nm9 (by omega))
  · refine lv_aload_n hx hb dPR_choose_17 rfl (lv_at hl 1 rfl) ?_
    refine va_get (D := (dC, dI)) (ci := 8) (v := .ref pi) (C := "PacketRows") (T := TPR) (N := 13) hx hb hts inPR hown hK hP 0 rfl rfl 0 (by decide) (hU hts u_365) (fun _ h9 => h9) rfl dPR_choose_18 ?_
    refine lv_iload hx hb dPR_choose_21 (lv_at hl 0 rfl) ?_
    refine lv_iload_n hx hb dPR_choose_23 rfl (lv_at hl 4 rfl) ?_
    refine lv_iload hx hb dPR_choose_24 (lv_at hl 5 rfl) ?_
    refine lv_iload hx hb dPR_choose_26 (lv_at hl 6 rfl) ?_
    refine vp_callSi (W.runV (As := [.int (nI (a * Rz + b)), .int c0, .int d0, .int e0]) (rest := []) ⟨hx, hb, hml, hown, hts⟩ (k_Picture_hasBlock l dC dI cI cZ cL pi ab ap aw ah aq L Rz C (3 * Rz) bd pr wd ht sta (a * Rz + b) c0 d0 e0 hsl (by omega) p1 p2 p3) (cwV 4 hts (gV u_981 u_982 u_983 u_41 u_984) rfl rfl rfl (by decide +kernel) ⟨Nat.le_of_ble_eq_true rfl, Nat.le_of_ble_eq_true rfl⟩) (q_prePV hK hZ hP [1, 2, 3, 4, 5, 6] rfl rfl rfl) rfl rfl hl.1 rfl (lv_room (Nat.le_of_ble_eq_true rfl)) dPR_choose_28 ⟨Nat.le_of_ble_eq_true rfl, Nat.le_of_ble_eq_true rfl⟩) (fun r_ er_ => ?_)
    subst er_
    refine qb_ine (tgt := 44) hx hb dPR_choose_31 (by decide) (fun c_31 => ?_) (fun c_31 => ?_)
    · exact absurd c_31 (by rw [hbad]; decide)
    · exact hret 109 149 113 "no such block" 34 ls (by rw [hml]; exact hl.1.symm) (hU hts u_952) (hU hts u_66) (s_149 hZ.2.1) (oat_IO hts hZ hO (hU hts u_962)) (by decide +kernel) dPR_choose_34 dPR_choose_37 dPR_choose_38 dPR_choose_40 dPR_choose_43 (Nat.le_of_ble_eq_true rfl) (Nat.le_of_ble_eq_true rfl) (Nat.le_of_ble_eq_true rfl) (Nat.le_of_ble_eq_true rfl)

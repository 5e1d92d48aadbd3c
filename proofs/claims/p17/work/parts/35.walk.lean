set_option maxHeartbeats 4000000 in
set_option maxRecDepth 100000 in
theorem k_PacketRows_chosenBlock (l : Launch) (dC : Nat → ClassId) (dI : Nat → Nat → Nat) (cI cZ cL : ClassId) (x : Nat) (pi : Nat) (ab : Nat) (ap : Nat) (aw : Nat) (ah : Nat) (aq : Nat) (tr : Nat) (rr : Nat) (o : Nat) (br : Nat) (wr : Nat) (rd : Nat) (hd : Nat) (L : Nat) (Rz : Nat) (C : Nat) (cs : Nat) (co : Nat) (lf : Nat) (lr : Nat) (bd : Nat → Nat) (pr : Nat → Nat) (wd : Nat → Nat) (ht : Nat → Nat) (sta : Nat → Nat) (wt : Bool) (h1 : cs < 3 * Rz + 1) (hr : Rz ≤ 4) :
    q_CP l (dC, dI) vwCl (tyL cI cZ cL) yPR_chosenBlock wsPR_chosenBlock (rmD 0) [.ref x] [(x, .inr (8, [.ref pi, .ref tr, .ref rr, .ref o, .ref br, .ref wr, .ref rd, .ref hd, .int (nI cs), .int (nI co), .int (bI wt), .int (nI lf), .int (nI lr)])), (pi, .inr (3, [.int (nI L), .int (nI Rz), .ref ab, .ref ap, .ref aw, .ref ah, .ref aq, .int (nI C)])), (ab, .inl (cI, 3 * Rz, .inl (fun j => nI (bd j)))), (ap, .inl (cI, 3 * Rz, .inl (fun j => nI (pr j)))), (aw, .inl (cI, 3 * Rz, .inl (fun j => nI (wd j)))), (ah, .inl (cI, 3 * Rz, .inl (fun j => nI (ht j)))), (aq, .inl (cI, 3 * Rz + 1, .inl (fun j => nI (sta j))))] (nI (sta cs + co)) := by
  refine q_entP "PacketRows" (by decide) rfl rfl rfl (Nat.le_of_ble_eq_true rfl) ?_
  intro p e s m below meth c ls Q hx hb hml hts hown hP hK hZ hl hret
  have hl : lv_has ls 1 [(0, .ref x)] := hl
  refine lv_aload_n hx hb dPR_chosenBlock_0 rfl (lv_at hl 0 rfl) ?_
  refine va_get (D := (dC, dI)) (ci := 8) (v := .ref pi) (C := "PacketRows") (T := TPR) (N := 13) hx hb hts inPR hown hK hP 0 rfl rfl 0 (by decide) (hU hts u_365) (fun _ h9 => h9) rfl dPR_chosenBlock_1 ?_
  refine va_get (D := (dC, dI)) (ci := 3) (v := .ref aq) (C := "PacketRows$Picture") (T := TPC) (N := 8) hx hb hts inPC hown hK hP 1 rfl rfl 6 (by decide) (hU hts u_128) (fun _ h9 => h9) rfl dPR_chosenBlock_4 ?_
  refine lv_aload_n hx hb dPR_chosenBlock_7 rfl (lv_at hl 0 rfl) ?_
  refine va_get (D := (dC, dI)) (ci := 8) (v := .int (nI cs)) (C := "PacketRows") (T := TPR) (N := 13) hx hb hts inPR hown hK hP 0 rfl rfl 8 (by decide) (hU hts u_373) (fun _ h9 => h9) rfl dPR_chosenBlock_8 ?_
  refine qi_ald hx hb hK hP 6 0 rfl rfl (k := cs) (by omega) (by omega) dPR_chosenBlock_11 ?_
  refine lv_aload_n hx hb dPR_chosenBlock_12 rfl (lv_at hl 0 rfl) ?_
  refine va_get (D := (dC, dI)) (ci := 8) (v := .int (nI co)) (C := "PacketRows") (T := TPR) (N := 13) hx hb hts inPR hown hK hP 0 rfl rfl 9 (by decide) (hU hts u_374) (fun _ h9 => h9) rfl dPR_chosenBlock_13 ?_
  refine qn_iadd hx hb dPR_chosenBlock_16 ?_
  exact hret _ _ dPR_chosenBlock_17
set_option maxHeartbeats 4000000 in
set_option maxRecDepth 100000 in
theorem k_packets (l : Launch) (dC : Nat → ClassId) (dI : Nat → Nat → Nat) (cI cZ cL : ClassId) (x : Nat) (pi : Nat) (tr : Nat) (rr : Nat) (o : Nat) (po : Nat) (pe : Nat) (pl : Nat) (li : Nat) (en : Nat) (ax : Nat) (br : Nat) (wr : Nat) (rd : Nat) (hd : Nat) (L : Nat) (Rz : Nat) (pts : Nat) (cs : Nat) (co : Nat) (lf : Nat) (lr : Nat) (fo : Nat → Nat) (fe : Nat → Nat) (fn : Nat → Nat) (X : lS) (wt : Bool)  :
    q_CP l (dC, dI) vwCl (tyL cI cZ cL) yPR_packets wsPR_packets (rmD 5) [.ref x] [(x, .inr (8, [.ref pi, .ref tr, .ref rr, .ref o, .ref br, .ref wr, .ref rd, .ref hd, .int (nI cs), .int (nI co), .int (bI wt), .int (nI lf), .int (nI lr)])), (o, .inr (2, [.ref pi, .ref po, .ref pe, .ref pl, .ref li, .ref en, .ref ax, .int (nI pts), .int (nI X.2.1)])), (po, .inl (cI, 6, .inl (fun j => nI (fo j)))), (pe, .inl (cI, 18, .inl (fun j => nI (fe j)))), (pl, .inl (cI, L * Rz * 3 * 4 * 4, .inl (fun j => nI (X.2.2.1 j)))), (li, .inl (cZ, L * Rz * 3 * 4, .inl (fun j => bI (X.2.2.2 j)))), (en, .inl (cI, 4, .inl (fun j => nI (fn j)))), (ax, .inl (cI, 4, .inl (fun j => nI (X.1 j))))] (nI X.2.1) := by
  refine q_entP "PacketRows" (by decide) rfl rfl rfl (Nat.le_of_ble_eq_true rfl) ?_
  intro p e s m below meth c ls Q hx hb hml hts hown hP hK hZ hl hret
  have hl : lv_has ls 1 [(0, .ref x)] := hl
  refine lv_aload_n hx hb dPR_packets_0 rfl (lv_at hl 0 rfl) ?_
  refine va_get (D := (dC, dI)) (ci := 8) (v := .ref o) (C := "PacketRows") (T := TPR) (N := 13) hx hb hts inPR hown hK hP 0 rfl rfl 3 (by decide) (hU hts u_368) (fun _ h9 => h9) rfl dPR_packets_1 ?_
  refine va_get (D := (dC, dI)) (ci := 2) (v := .int (nI X.2.1)) (C := "PacketRows$Order") (T := TOD) (N := 9) hx hb hts inOD hown hK hP 1 rfl rfl 8 (by decide) (hU hts u_198) (fun _ h9 => h9) rfl dPR_packets_4 ?_
  exact hret _ _ dPR_packets_7
set_option maxHeartbeats 4000000 in
set_option maxRecDepth 100000 in
theorem k_wipe (l : Launch) (dC : Nat → ClassId) (dI : Nat → Nat → Nat) (cI cZ cL : ClassId) (x : Nat) (pi : Nat) (tr : Nat) (rr : Nat) (o : Nat) (br : Nat) (row : Nat) (wr : Nat) (rd : Nat) (hd : Nat) (bz : Nat) (cs : Nat) (co : Nat) (lf : Nat) (lr : Nat) (f : Nat → Nat) (wt : Bool)  :
    q_CI l (dC, dI) vwCl (tyL cI cZ cL) yPR_wipe wsPR_wipe (rmD 5) [.ref x] [(x, .inr (8, [.ref pi, .ref tr, .ref rr, .ref o, .ref br, .ref wr, .ref rd, .ref hd, .int (nI cs), .int (nI co), .int (bI wt), .int (nI lf), .int (nI lr)])), (br, .inr (0, [.ref row, .int (nI bz)])), (row, .inl (cI, 6000, .inl (fun j => nI (f j))))] (fun (z : Int32) (_ : Unit) => z = nI bz) (fun (_ : Unit) => [(x, .inr (8, [.ref pi, .ref tr, .ref rr, .ref o, .ref br, .ref wr, .ref rd, .ref hd, .int (nI cs), .int (nI co), .int (bI wt), .int (nI lf), .int (nI lr)])), (br, .inr (0, [.ref row, .int (nI 0)])), (row, .inl (cI, 6000, .inl (fun j => nI (f j))))]) := by
  refine q_entI "PacketRows" (by decide) rfl (fun _ _ _ => rfl) rfl (Nat.le_of_ble_eq_true rfl) ?_
  intro p e s m below meth c ls Q A hx hb hml hts hown hP hD hK hZ hO hA hS hl hret
  have hl : lv_has ls 2 [(0, .ref x)] := hl
  refine lv_aload_n hx hb dPR_wipe_0 rfl (lv_at hl 0 rfl) ?_
  refine va_get (D := (dC, dI)) (ci := 8) (v := .ref br) (C := "PacketRows") (T := TPR) (N := 13) hx hb hts inPR hown hK hP 0 rfl rfl 4 (by decide) (hU hts u_369) (fun _ h9 => h9) rfl dPR_wipe_1 ?_
  refine va_get (D := (dC, dI)) (ci := 0) (v := .int (nI bz)) (C := "PacketRows$ByteRow") (T := TBR) (N := 2) hx hb hts inBR hown hK hP 1 rfl rfl 1 (by decide) (hU hts u_230) (fun _ h9 => h9) rfl dPR_wipe_4 ?_
  refine lv_istore_n (lv' := [(1, .int (nI bz)), (0, .ref x)]) hx hb dPR_wipe_7 rfl hl (by decide) rfl (fun ls hl => ?_)
  refine lv_aload_n hx hb dPR_wipe_8 rfl (lv_at hl 1 rfl) ?_
  refine va_get (D := (dC, dI)) (ci := 8) (v := .ref br) (C := "PacketRows") (T := TPR) (N := 13) hx hb hts inPR hown hK hP 0 rfl rfl 4 (by decide) (hU hts u_369) (fun _ h9 => h9) rfl dPR_wipe_9 ?_
  refine lv_iconst (v := nI 0) hx hb dPR_wipe_12 (by decide +kernel) ?_
  refine va_put (D := (dC, dI)) (ci := 0) (v := .int (nI 0)) (ty := .int) (C := "PacketRows$ByteRow") (T := TBR) (N := 2) hx hb hts inBR tyBR tyBR_ok nmBR hown hK hP hD hS 1 rfl rfl 1 (by decide) (hU hts u_230) (fun _ h9 => h9) rfl (by decide +kernel) rfl rfl (Nat.le_of_ble_eq_true rfl) dPR_wipe_13 (fun H locs hP hD hS => ?_)
  have hP : va_P (dC, dI) vwCl [(x, .inr (8, [.ref pi, .ref tr, .ref rr, .ref o, .ref br, .ref wr, .ref rd, .ref hd, .int (nI cs), .int (nI co), .int (bI wt), .int (nI lf), .int (nI lr)])), (br, .inr (0, [.ref row, .int (nI 0)])), (row, .inl (cI, 6000, .inl (fun j => nI (f j))))] H := hP
  have hD : va_D A [(x, .inr (8, [.ref pi, .ref tr, .ref rr, .ref o, .ref br, .ref wr, .ref rd, .ref hd, .int (nI cs), .int (nI co), .int (bI wt), .int (nI lf), .int (nI lr)])), (br, .inr (0, [.ref row, .int (nI 0)])), (row, .inl (cI, 6000, .inl (fun j => nI (f j))))] := hD
  refine lv_iload_n hx hb dPR_wipe_16 rfl (lv_at hl 0 rfl) ?_
  exact hret _ () _ _ _ _ dPR_wipe_17 rfl hP hS
set_option maxHeartbeats 4000000 in
set_option maxRecDepth 100000 in
theorem k_ByteRow_at_in (l : Launch) (dC : Nat → ClassId) (dI : Nat → Nat → Nat) (cI cZ cL : ClassId) (br row bz : Nat) (f : Nat → Nat) (i : Nat) (hi : i < bz) (hz : bz ≤ 6000) :
    q_CP l (dC, dI) vwCl (tyL cI cZ cL) yBR_at wsBR_at (rmD 1) [.ref br, .int (nI i)] [(br, .inr (0, [.ref row, .int (nI bz)])), (row, .inl (cI, 6000, .inl (fun j => nI (f j))))] (nI (f i)) := by
  refine q_entP "PacketRows$ByteRow" (by decide) rfl rfl rfl (Nat.le_of_ble_eq_true rfl) ?_
  intro p e s m below meth c ls Q hx hb hml hts hown hP hK hZ hl hret
  have hl : lv_has ls 2 [(0, .ref br), (1, .int (nI i))] := hl
  refine lv_iload_n hx hb dBR_at_0 rfl (lv_at hl 1 rfl) ?_
  refine lv_iconst (v := nI 0) hx hb dBR_at_1 (by decide +kernel) ?_
  refine lv_aload_n hx hb dBR_at_2 rfl (lv_at hl 0 rfl) ?_
  refine va_get (D := (dC, dI)) (ci := 0) (v := .int (nI bz)) (C := "PacketRows$ByteRow") (T := TBR) (N := 2) hx hb hts inBR hown hK hP 0 rfl rfl 1 (by decide) (hU hts u_228) (fun _ h9 => h9) rfl dBR_at_3 ?_
  refine lv_iconst (v := nI 1) hx hb dBR_at_6 (by decide +kernel) ?_
  refine qn_isub hx hb dBR_at_7 (by omega) ?_
  refine vp_callSi (va_Run.run (va_runSN (As := [.int (nI i), .int (nI 0), .int (nI (bz - 1))]) (rest := []) ⟨hx, hb, hml, hown, hts⟩ (k_PacketRows_isWithin l dC dI cI cZ cL (nI i) (nI 0) (nI (bz - 1)) ) ⟨va_cnB (host := "PacketRows") 3 hts (gU (gW u_921)) rfl rfl rfl (hZ.1 _ z_11) (hU hts u_40) (by decide +kernel) ⟨Nat.le_of_ble_eq_true rfl, Nat.le_of_ble_eq_true rfl⟩, hU hts u_920, trivial⟩ (q_preP hK hZ hP [] rfl) rfl rfl hl.1 rfl (lv_room (Nat.le_of_ble_eq_true rfl)) dBR_at_8 ⟨Nat.le_of_ble_eq_true rfl, Nat.le_of_ble_eq_true rfl⟩)) (fun r_ er_ => ?_)
  subst er_
  refine qb_ieq (tgt := 23) hx hb dBR_at_11 (by decide) (fun c_11 => ?_) (fun c_11 => ?_)
  · exact absurd c_11 (by rw [decide_eq_true (⟨(nI_leI (by omega) (by omega)).mpr (by omega), (nI_leI (by omega) (by omega)).mpr (by omega)⟩)]; decide)
  · refine lv_aload_n hx hb dBR_at_14 rfl (lv_at hl 0 rfl) ?_
    refine va_get (D := (dC, dI)) (ci := 0) (v := .ref row) (C := "PacketRows$ByteRow") (T := TBR) (N := 2) hx hb hts inBR hown hK hP 0 rfl rfl 0 (by decide) (hU hts u_225) (fun _ h9 => h9) rfl dBR_at_15 ?_
    refine lv_iload_n hx hb dBR_at_18 rfl (lv_at hl 1 rfl) ?_
    refine qi_ald hx hb hK hP 1 0 rfl rfl (k := i) (by omega) (by omega) dBR_at_19 ?_
    refine lv_goto (tgt := 24) hx hb dBR_at_20 (by decide) ?_
    exact hret _ _ dBR_at_24
set_option maxHeartbeats 4000000 in
set_option maxRecDepth 100000 in
theorem k_ByteRow_at_out (l : Launch) (dC : Nat → ClassId) (dI : Nat → Nat → Nat) (cI cZ cL : ClassId) (br row bz : Nat) (f : Nat → Nat) (v : Int32) (hbad : ¬ (nI 0 ≤ v ∧ v ≤ nI bz - nI 1)) :
    q_CP l (dC, dI) vwCl (tyL cI cZ cL) yBR_at wsBR_at (rmD 1) [.ref br, .int v] [(br, .inr (0, [.ref row, .int (nI bz)])), (row, .inl (cI, 6000, .inl (fun j => nI (f j))))] ((-1)) := by
  refine q_entP "PacketRows$ByteRow" (by decide) rfl rfl rfl (Nat.le_of_ble_eq_true rfl) ?_
  intro p e s m below meth c ls Q hx hb hml hts hown hP hK hZ hl hret
  have hl : lv_has ls 2 [(0, .ref br), (1, .int v)] := hl
  refine lv_iload_n hx hb dBR_at_0 rfl (lv_at hl 1 rfl) ?_
  refine lv_iconst (v := nI 0) hx hb dBR_at_1 (by decide +kernel) ?_
  refine lv_aload_n hx hb dBR_at_2 rfl (lv_at hl 0 rfl) ?_
  refine va_get (D := (dC, dI)) (ci := 0) (v := .int (nI bz)) (C := "PacketRows$ByteRow") (T := TBR) (N := 2) hx hb hts inBR hown hK hP 0 rfl rfl 1 (by decide) (hU hts u_228) (fun _ h9 => h9) rfl dBR_at_3 ?_
  refine lv_iconst (v := nI 1) hx hb dBR_at_6 (by decide +kernel) ?_
  refine lv_isub hx hb dBR_at_7 ?_
  refine vp_callSi (va_Run.run (va_runSN (As := [.int v, .int (nI 0), .int ((nI bz) - (nI 1))]) (rest := []) ⟨hx, hb, hml, hown, hts⟩ (k_PacketRows_isWithin l dC dI cI cZ cL v (nI 0) ((nI bz) - (nI 1)) ) ⟨va_cnB (host := "PacketRows") 3 hts (gU (gW u_921)) rfl rfl rfl (hZ.1 _ z_11) (hU hts u_40) (by decide +kernel) ⟨Nat.le_of_ble_eq_true rfl, Nat.le_of_ble_eq_true rfl⟩, hU hts u_920, trivial⟩ (q_preP hK hZ hP [] rfl) rfl rfl hl.1 rfl (lv_room (Nat.le_of_ble_eq_true rfl)) dBR_at_8 ⟨Nat.le_of_ble_eq_true rfl, Nat.le_of_ble_eq_true rfl⟩)) (fun r_ er_ => ?_)
  subst er_
  refine qb_ieq (tgt := 23) hx hb dBR_at_11 (by decide) (fun c_11 => ?_) (fun c_11 => ?_)
  · refine lv_iconst (v := (-1)) hx hb dBR_at_23 (by decide +kernel) ?_
    exact hret _ _ dBR_at_24
  · exact absurd c_11 (by rw [decide_eq_false hbad]; decide)
set_option maxHeartbeats 4000000 in
set_option maxRecDepth 100000 in
theorem k_byteAt_in (l : Launch) (dC : Nat → ClassId) (dI : Nat → Nat → Nat) (cI cZ cL : ClassId) (x : Nat) (pi : Nat) (tr : Nat) (rr : Nat) (o : Nat) (br : Nat) (row : Nat) (wr : Nat) (rd : Nat) (hd : Nat) (bz : Nat) (cs : Nat) (co : Nat) (lf : Nat) (lr : Nat) (f : Nat → Nat) (wt : Bool) (i : Nat) (hi : i < bz) (hz : bz ≤ 6000) :
    q_CP l (dC, dI) vwCl (tyL cI cZ cL) yPR_byteAt wsPR_byteAt (rmD 5) [.ref x, .int (nI i)] [(x, .inr (8, [.ref pi, .ref tr, .ref rr, .ref o, .ref br, .ref wr, .ref rd, .ref hd, .int (nI cs), .int (nI co), .int (bI wt), .int (nI lf), .int (nI lr)])), (br, .inr (0, [.ref row, .int (nI bz)])), (row, .inl (cI, 6000, .inl (fun j => nI (f j))))] (nI (f i)) := by
  refine q_entP "PacketRows" (by decide) rfl rfl rfl (Nat.le_of_ble_eq_true rfl) ?_
  intro p e s m below meth c ls Q hx hb hml hts hown hP hK hZ hl hret
  have hl : lv_has ls 2 [(0, .ref x), (1, .int (nI i))] := hl
  refine lv_aload_n hx hb dPR_byteAt_0 rfl (lv_at hl 0 rfl) ?_
  refine va_get (D := (dC, dI)) (ci := 8) (v := .ref br) (C := "PacketRows") (T := TPR) (N := 13) hx hb hts inPR hown hK hP 0 rfl rfl 4 (by decide) (hU hts u_369) (fun _ h9 => h9) rfl dPR_byteAt_1 ?_
  refine lv_iload_n hx hb dPR_byteAt_4 rfl (lv_at hl 1 rfl) ?_
  refine vp_callSi (W.runV (As := [.int (nI i)]) (rest := []) ⟨hx, hb, hml, hown, hts⟩ (k_ByteRow_at_in l dC dI cI cZ cL br row bz f i hi hz) (cwV 1 hts (gV u_915 u_916 u_917 u_45 u_918) rfl rfl rfl (by decide +kernel) ⟨Nat.le_of_ble_eq_true rfl, Nat.le_of_ble_eq_true rfl⟩) (q_prePV hK hZ hP [1, 2] rfl rfl rfl) rfl rfl hl.1 rfl (lv_room (Nat.le_of_ble_eq_true rfl)) dPR_byteAt_5 ⟨Nat.le_of_ble_eq_true rfl, Nat.le_of_ble_eq_true rfl⟩) (fun r_ er_ => ?_)
  subst er_
  exact hret _ _ dPR_byteAt_8
set_option maxHeartbeats 4000000 in
set_option maxRecDepth 100000 in
theorem k_byteAt_out (l : Launch) (dC : Nat → ClassId) (dI : Nat → Nat → Nat) (cI cZ cL : ClassId) (x : Nat) (pi : Nat) (tr : Nat) (rr : Nat) (o : Nat) (br : Nat) (row : Nat) (wr : Nat) (rd : Nat) (hd : Nat) (bz : Nat) (cs : Nat) (co : Nat) (lf : Nat) (lr : Nat) (f : Nat → Nat) (wt : Bool) (v : Int32) (hbad : ¬ (nI 0 ≤ v ∧ v ≤ nI bz - nI 1)) :
    q_CP l (dC, dI) vwCl (tyL cI cZ cL) yPR_byteAt wsPR_byteAt (rmD 5) [.ref x, .int v] [(x, .inr (8, [.ref pi, .ref tr, .ref rr, .ref o, .ref br, .ref wr, .ref rd, .ref hd, .int (nI cs), .int (nI co), .int (bI wt), .int (nI lf), .int (nI lr)])), (br, .inr (0, [.ref row, .int (nI bz)])), (row, .inl (cI, 6000, .inl (fun j => nI (f j))))] ((-1)) := by
  refine q_entP "PacketRows" (by decide) rfl rfl rfl (Nat.le_of_ble_eq_true rfl) ?_
  intro p e s m below meth c ls Q hx hb hml hts hown hP hK hZ hl hret
  have hl : lv_has ls 2 [(0, .ref x), (1, .int v)] := hl
  refine lv_aload_n hx hb dPR_byteAt_0 rfl (lv_at hl 0 rfl) ?_
  refine va_get (D := (dC, dI)) (ci := 8) (v := .ref br) (C := "PacketRows") (T := TPR) (N := 13) hx hb hts inPR hown hK hP 0 rfl rfl 4 (by decide) (hU hts u_369) (fun _ h9 => h9) rfl dPR_byteAt_1 ?_
  refine lv_iload_n hx hb dPR_byteAt_4 rfl (lv_at hl 1 rfl) ?_
  refine vp_callSi (W.runV (As := [.int v]) (rest := []) ⟨hx, hb, hml, hown, hts⟩ (k_ByteRow_at_out l dC dI cI cZ cL br row bz f v hbad) (cwV 1 hts (gV u_915 u_916 u_917 u_45 u_918) rfl rfl rfl (by decide +kernel) ⟨Nat.le_of_ble_eq_true rfl, Nat.le_of_ble_eq_true rfl⟩) (q_prePV hK hZ hP [1, 2] rfl rfl rfl) rfl rfl hl.1 rfl (lv_room (Nat.le_of_ble_eq_true rfl)) dPR_byteAt_5 ⟨Nat.le_of_ble_eq_true rfl, Nat.le_of_ble_eq_true rfl⟩) (fun r_ er_ => ?_)
  subst er_
  exact hret _ _ dPR_byteAt_8
set_option maxHeartbeats 4000000 in
set_option maxRecDepth 100000 in
theorem k_feed_full (l : Launch) (dC : Nat → ClassId) (dI : Nat → Nat → Nat) (cI cZ cL : ClassId) (x : Nat) (pi : Nat) (tr : Nat) (rr : Nat) (o : Nat) (br : Nat) (row : Nat) (wr : Nat) (rd : Nat) (hd : Nat) (bz : Nat) (cs : Nat) (co : Nat) (lf : Nat) (lr : Nat) (f : Nat → Nat) (wt : Bool) (n : Nat) (v : Int64) (h1 : 1 ≤ n ∧ n ≤ 8) (h2 : 6000 < bz + n) (hz : bz ≤ 6000) :
    q_CP l (dC, dI) vwCl (tyL cI cZ cL) yPR_feed wsPR_feed (rmD 5) [.ref x, .int (nI n), .long v] [(x, .inr (8, [.ref pi, .ref tr, .ref rr, .ref o, .ref br, .ref wr, .ref rd, .ref hd, .int (nI cs), .int (nI co), .int (bI wt), .int (nI lf), .int (nI lr)])), (br, .inr (0, [.ref row, .int (nI bz)])), (row, .inl (cI, 6000, .inl (fun j => nI (f j))))] ((-1)) := by
  refine q_entP "PacketRows" (by decide) rfl rfl rfl (Nat.le_of_ble_eq_true rfl) ?_
  intro p e s m below meth c ls Q hx hb hml hts hown hP hK hZ hl hret
  have hl : lv_has ls 5 [(0, .ref x), (1, .int (nI n)), (2, .long v)] := hl
  refine lv_iload_n hx hb dPR_feed_0 rfl (lv_at hl 1 rfl) ?_
  refine lv_iconst (v := nI 1) hx hb dPR_feed_1 (by decide +kernel) ?_
  refine lv_bipush (v := nI 8) hx hb dPR_feed_2 (by decide +kernel) ?_
  refine vp_callSi (W.runS (As := [.int (nI n), .int (nI 1), .int (nI 8)]) (rest := []) ⟨hx, hb, hml, hown, hts⟩ (k_PacketRows_isWithin l dC dI cI cZ cL (nI n) (nI 1) (nI 8) ) (va_cwS 3 hts (gS u_965 u_920 u_40 u_921) rfl rfl rfl (by decide +kernel) ⟨Nat.le_of_ble_eq_true rfl, Nat.le_of_ble_eq_true rfl⟩) (q_preP hK hZ hP [] rfl) rfl rfl hl.1 rfl (lv_room (Nat.le_of_ble_eq_true rfl)) dPR_feed_4 ⟨Nat.le_of_ble_eq_true rfl, Nat.le_of_ble_eq_true rfl⟩) (fun r_ er_ => ?_)
  subst er_
  refine qb_ine (tgt := 20) hx hb dPR_feed_7 (by decide) (fun c_7 => ?_) (fun c_7 => ?_)
  · refine lv_aload_n hx hb dPR_feed_20 rfl (lv_at hl 0 rfl) ?_
    refine va_get (D := (dC, dI)) (ci := 8) (v := .ref br) (C := "PacketRows") (T := TPR) (N := 13) hx hb hts inPR hown hK hP 0 rfl rfl 4 (by decide) (hU hts u_369) (fun _ h9 => h9) rfl dPR_feed_21 ?_
    refine va_get (D := (dC, dI)) (ci := 0) (v := .int (nI bz)) (C := "PacketRows$ByteRow") (T := TBR) (N := 2) hx hb hts inBR hown hK hP 1 rfl rfl 1 (by decide) (hU hts u_230) (fun _ h9 => h9) rfl dPR_feed_24 ?_
    refine lv_iload_n hx hb dPR_feed_27 rfl (lv_at hl 1 rfl) ?_
    refine qn_iadd hx hb dPR_feed_28 ?_
    refine lv_sipush (v := nI 6000) hx hb dPR_feed_29 (by decide +kernel) ?_
    refine qn_cle (tgt := 37) hx hb dPR_feed_32 (by decide) (by omega) (by omega) (fun c_32 => ?_) (fun c_32 => ?_)
    · exact absurd c_32 (by omega)
    · refine lv_iconst (v := (-1)) hx hb dPR_feed_35 (by decide +kernel) ?_
      exact hret _ _ dPR_feed_36
  · exact absurd c_7 (by rw [decide_eq_true (⟨(nI_leI (by omega) (by omega)).mpr (by omega), (nI_leI (by omega) (by omega)).mpr (by omega)⟩)]; decide)
set_option maxHeartbeats 4000000 in
set_option maxRecDepth 100000 in
theorem k_feed_ok (l : Launch) (dC : Nat → ClassId) (dI : Nat → Nat → Nat) (cI cZ cL : ClassId) (x : Nat) (pi : Nat) (tr : Nat) (rr : Nat) (o : Nat) (br : Nat) (row : Nat) (wr : Nat) (rd : Nat) (hd : Nat) (bz : Nat) (cs : Nat) (co : Nat) (lf : Nat) (lr : Nat) (f : Nat → Nat) (wt : Bool) (n : Nat) (v : Int64) (h1 : 1 ≤ n ∧ n ≤ 8) (h2 : bz + n ≤ 6000) :
    q_CI l (dC, dI) vwCl (tyL cI cZ cL) yPR_feed wsPR_feed (rmD 5) [.ref x, .int (nI n), .long v] [(x, .inr (8, [.ref pi, .ref tr, .ref rr, .ref o, .ref br, .ref wr, .ref rd, .ref hd, .int (nI cs), .int (nI co), .int (bI wt), .int (nI lf), .int (nI lr)])), (br, .inr (0, [.ref row, .int (nI bz)])), (row, .inl (cI, 6000, .inl (fun j => nI (f j))))] (fun (z : Int32) (_ : Unit) => z = nI (bz + n)) (fun (_ : Unit) => [(x, .inr (8, [.ref pi, .ref tr, .ref rr, .ref o, .ref br, .ref wr, .ref rd, .ref hd, .int (nI cs), .int (nI co), .int (bI wt), .int (nI lf), .int (nI lr)])), (br, .inr (0, [.ref row, .int (nI (bz + n))])), (row, .inl (cI, 6000, .inl (fun j => nI ((m_feed f bz v n) j))))]) := by
  refine q_entI "PacketRows" (by decide) rfl (fun _ _ _ => rfl) rfl (Nat.le_of_ble_eq_true rfl) ?_
  intro p e s m below meth c ls Q A hx hb hml hts hown hP hD hK hZ hO hA hS hl hret
  have hl : lv_has ls 5 [(0, .ref x), (1, .int (nI n)), (2, .long v)] := hl
  refine lv_iload_n hx hb dPR_feed_0 rfl (lv_at hl 1 rfl) ?_
  refine lv_iconst (v := nI 1) hx hb dPR_feed_1 (by decide +kernel) ?_
  refine lv_bipush (v := nI 8) hx hb dPR_feed_2 (by decide +kernel) ?_
  refine vp_callSi (W.runS (As := [.int (nI n), .int (nI 1), .int (nI 8)]) (rest := []) ⟨hx, hb, hml, hown, hts⟩ (k_PacketRows_isWithin l dC dI cI cZ cL (nI n) (nI 1) (nI 8) ) (va_cwS 3 hts (gS u_965 u_920 u_40 u_921) rfl rfl rfl (by decide +kernel) ⟨Nat.le_of_ble_eq_true rfl, Nat.le_of_ble_eq_true rfl⟩) (q_preP hK hZ hP [] rfl) rfl rfl hl.1 rfl (lv_room (Nat.le_of_ble_eq_true rfl)) dPR_feed_4 ⟨Nat.le_of_ble_eq_true rfl, Nat.le_of_ble_eq_true rfl⟩) (fun r_ er_ => ?_)
  subst er_
  refine qb_ine (tgt := 20) hx hb dPR_feed_7 (by decide) (fun c_7 => ?_) (fun c_7 => ?_)
  · refine lv_aload_n hx hb dPR_feed_20 rfl (lv_at hl 0 rfl) ?_
    refine va_get (D := (dC, dI)) (ci := 8) (v := .ref br) (C := "PacketRows") (T := TPR) (N := 13) hx hb hts inPR hown hK hP 0 rfl rfl 4 (by decide) (hU hts u_369) (fun _ h9 => h9) rfl dPR_feed_21 ?_
    refine va_get (D := (dC, dI)) (ci := 0) (v := .int (nI bz)) (C := "PacketRows$ByteRow") (T := TBR) (N := 2) hx hb hts inBR hown hK hP 1 rfl rfl 1 (by decide) (hU hts u_230) (fun _ h9 => h9) rfl dPR_feed_24 ?_
    refine lv_iload_n hx hb dPR_feed_27 rfl (lv_at hl 1 rfl) ?_
    refine qn_iadd hx hb dPR_feed_28 ?_
    refine lv_sipush (v := nI 6000) hx hb dPR_feed_29 (by decide +kernel) ?_
    refine qn_cle (tgt := 37) hx hb dPR_feed_32 (by decide) (by omega) (by omega) (fun c_32 => ?_) (fun c_32 => ?_)
    · refine lv_iconst (v := nI 0) hx hb dPR_feed_37 (by decide +kernel) ?_
      refine lv_istore (lv' := [(4, .int (nI 0)), (0, .ref x), (1, .int (nI n)), (2, .long v)]) hx hb dPR_feed_38 hl (by decide) rfl (fun ls hl => ?_)
      have lp_40 : ∀ (fu : Nat) (i : Nat) (H : Heap) (locs : List Loc) (ls : Array Slot), n - i < fu → (i ≤ n) → va_P (dC, dI) vwCl [(x, .inr (8, [.ref pi, .ref tr, .ref rr, .ref o, .ref br, .ref wr, .ref rd, .ref hd, .int (nI cs), .int (nI co), .int (bI wt), .int (nI lf), .int (nI lr)])), (br, .inr (0, [.ref row, .int (nI (bz + i))])), (row, .inl (cI, 6000, .inl (fun j => nI ((m_feed f bz v i) j))))] H → va_D A [(x, .inr (8, [.ref pi, .ref tr, .ref rr, .ref o, .ref br, .ref wr, .ref rd, .ref hd, .int (nI cs), .int (nI co), .int (bI wt), .int (nI lf), .int (nI lr)])), (br, .inr (0, [.ref row, .int (nI (bz + i))])), (row, .inl (cI, 6000, .inl (fun j => nI ((m_feed f bz v i) j))))] → va_S A s.heap H locs → lv_has ls 5 [(4, .int (nI i)), (0, .ref x), (1, .int (nI n)), (2, .long v)] → W p l e (headSpec wsPR_feed (rmD 5)).room s m [.ref x, .int (nI n), .long v].toArray below meth c H locs 0 0 Q (F0 m 40 ls []) := by
        intro fu
        induction fu with
        | zero => intro i H locs ls hmeas; exact absurd hmeas (Nat.not_lt_zero _)
        | succ fu ih_40 =>
          intro i H locs ls hmeas hi hP hD hS hl
          refine lv_iload hx hb dPR_feed_40 (lv_at hl 0 rfl) ?_
          refine lv_iload_n hx hb dPR_feed_42 rfl (lv_at hl 2 rfl) ?_
          refine qn_cge (tgt := 71) hx hb dPR_feed_43 (by decide) (by omega) (by omega) (fun c_43 => ?_) (fun c_43 => ?_)
          · have e9 : n = i := by omega
            subst e9
            refine lv_aload_n hx hb dPR_feed_71 rfl (lv_at hl 1 rfl) ?_
            refine va_get (D := (dC, dI)) (ci := 8) (v := .ref br) (C := "PacketRows") (T := TPR) (N := 13) hx hb hts inPR hown hK hP 0 rfl rfl 4 (by decide) (hU hts u_369) (fun _ h9 => h9) rfl dPR_feed_72 ?_
            refine va_get (D := (dC, dI)) (ci := 0) (v := .int (nI (bz + n))) (C := "PacketRows$ByteRow") (T := TBR) (N := 2) hx hb hts inBR hown hK hP 1 rfl rfl 1 (by decide) (hU hts u_230) (fun _ h9 => h9) rfl dPR_feed_75 ?_
            exact hret _ () _ _ _ _ dPR_feed_78 rfl hP hS
          · refine lv_aload_n hx hb dPR_feed_46 rfl (lv_at hl 1 rfl) ?_
            refine va_get (D := (dC, dI)) (ci := 8) (v := .ref br) (C := "PacketRows") (T := TPR) (N := 13) hx hb hts inPR hown hK hP 0 rfl rfl 4 (by decide) (hU hts u_369) (fun _ h9 => h9) rfl dPR_feed_47 ?_
            refine lv_lload_n hx hb dPR_feed_50 rfl (lv_at hl 3 rfl) ?_
            refine lv_bipush (v := nI 8) hx hb dPR_feed_51 (by decide +kernel) ?_
            refine lv_iload hx hb dPR_feed_53 (lv_at hl 0 rfl) ?_
            refine qn_imul hx hb dPR_feed_55 ?_
            refine lv_lushr (v := m_us v (8 * i)) hx hb dPR_feed_56 rfl ?_
            refine lv_l2i (v := (m_us v (8 * i)).toInt32) hx hb dPR_feed_57 rfl ?_
            refine lv_sipush (v := nI 255) hx hb dPR_feed_58 (by decide +kernel) ?_
            refine lv_iand hx hb dPR_feed_61 ?_
            refine qn_eq (y := nI (m_by v i)) (m_by_eq v i) ?_
            refine q_callv (va_runV (As := [.int (nI (m_by v i))]) (rest := []) ⟨hx, hb, hml, hown, hts⟩ (k_ByteRow_add l dC dI cI cZ cL br row (bz + i) (m_feed f bz v i) (m_by v i) (by omega) H.size) (cwV 1 hts (gV u_1039 u_1040 u_1041 u_45 u_1042) rfl rfl rfl (by decide +kernel) ⟨Nat.le_of_ble_eq_true rfl, Nat.le_of_ble_eq_true rfl⟩) (q_preMV hK hZ hO hS hA hP hD [1, 2] rfl (by decide) rfl rfl) rfl rfl hl.1 rfl (lv_room (Nat.le_of_ble_eq_true rfl)) dPR_feed_62 ⟨Nat.le_of_ble_eq_true rfl, Nat.le_of_ble_eq_true rfl⟩) hP hD hS hA [1, 2] rfl (by decide) (fun _ => by simp only [List.map_cons, List.map_nil]) (fun u_ H locs hpost hP hD hS => ?_)
            have hP : va_P (dC, dI) vwCl [(x, .inr (8, [.ref pi, .ref tr, .ref rr, .ref o, .ref br, .ref wr, .ref rd, .ref hd, .int (nI cs), .int (nI co), .int (bI wt), .int (nI lf), .int (nI lr)])), (br, .inr (0, [.ref row, .int (nI (if (bz + i) < 6000 then (bz + i) + 1 else (bz + i)))])), (row, .inl (cI, 6000, .inl (fun j => nI ((if (bz + i) < 6000 then va_up (m_feed f bz v i) (bz + i) (m_by v i) else (m_feed f bz v i)) j))))] H := hP
            have hD : va_D A [(x, .inr (8, [.ref pi, .ref tr, .ref rr, .ref o, .ref br, .ref wr, .ref rd, .ref hd, .int (nI cs), .int (nI co), .int (bI wt), .int (nI lf), .int (nI lr)])), (br, .inr (0, [.ref row, .int (nI (if (bz + i) < 6000 then (bz + i) + 1 else (bz + i)))])), (row, .inl (cI, 6000, .inl (fun j => nI ((if (bz + i) < 6000 then va_up (m_feed f bz v i) (bz + i) (m_by v i) else (m_feed f bz v i)) j))))] := hD
            refine lv_iinc (v := nI (i + 1)) (lv' := [(4, .int (nI (i + 1))), (0, .ref x), (1, .int (nI n)), (2, .long v)]) hx hb dPR_feed_65 hl (k := 0) rfl (nI_inc _) (by decide) rfl (fun ls hl => ?_)
            refine lv_goto (tgt := 40) hx hb dPR_feed_68 (by decide) ?_
            exact ih_40 (i + 1) _ _ _ (by omega) (by omega) (by rw [if_pos (show bz + i < 6000 by omega), if_pos (show bz + i < 6000 by omega)] at hP; exact hP) (by rw [if_pos (show bz + i < 6000 by omega), if_pos (show bz + i < 6000 by omega)] at hD; exact hD) hS (lv_sub hl [0, 1, 2, 3] rfl)
      exact lp_40 _ 0 _ _ _ (Nat.lt_succ_self _) (Nat.zero_le _) hP hD hS (lv_sub hl [0, 1, 2, 3] rfl)
    · exact absurd c_32 (by omega)
  · exact absurd c_7 (by rw [decide_eq_true (⟨(nI_leI (by omega) (by omega)).mpr (by omega), (nI_leI (by omega) (by omega)).mpr (by omega)⟩)]; decide)
set_option maxHeartbeats 4000000 in
set_option maxRecDepth 100000 in
theorem k_choose_ok (l : Launch) (dC : Nat → ClassId) (dI : Nat → Nat → Nat) (cI cZ cL : ClassId) (x : Nat) (pi : Nat) (ab : Nat) (ap : Nat) (aw : Nat) (ah : Nat) (aq : Nat) (tr : Nat) (rr : Nat) (o : Nat) (br : Nat) (wr : Nat) (rd : Nat) (hd : Nat) (L : Nat) (Rz : Nat) (C : Nat) (cs : Nat) (co : Nat) (lf : Nat) (lr : Nat) (bd : Nat → Nat) (pr : Nat → Nat) (wd : Nat → Nat) (ht : Nat → Nat) (sta : Nat → Nat) (wt : Bool) (a b c0 d0 e0 : Nat) (h1 : 1 ≤ C) (h2 : 1 ≤ Rz) (ha : a < C) (hb9 : b < Rz) (hc9 : C ≤ 3) (hr9 : Rz ≤ 4) (p1 : c0 < pr (a * Rz + b)) (p2 : d0 < bd (a * Rz + b)) (p3 : e0 < wd (a * Rz + b) * ht (a * Rz + b)) (hq : pr (a * Rz + b) ≤ 4 ∧ bd (a * Rz + b) ≤ 3 ∧ wd (a * Rz + b) * ht (a * Rz + b) ≤ 12) :
    q_CI l (dC, dI) vwCl (tyL cI cZ cL) yPR_choose wsPR_choose (rmD 5) [.ref x, .int (nI a), .int (nI b), .int (nI c0), .int (nI d0), .int (nI e0)] [(x, .inr (8, [.ref pi, .ref tr, .ref rr, .ref o, .ref br, .ref wr, .ref rd, .ref hd, .int (nI cs), .int (nI co), .int (bI wt), .int (nI lf), .int (nI lr)])), (pi, .inr (3, [.int (nI L), .int (nI Rz), .ref ab, .ref ap, .ref aw, .ref ah, .ref aq, .int (nI C)])), (ab, .inl (cI, 3 * Rz, .inl (fun j => nI (bd j)))), (ap, .inl (cI, 3 * Rz, .inl (fun j => nI (pr j)))), (aw, .inl (cI, 3 * Rz, .inl (fun j => nI (wd j)))), (ah, .inl (cI, 3 * Rz, .inl (fun j => nI (ht j)))), (aq, .inl (cI, 3 * Rz + 1, .inl (fun j => nI (sta j))))] (fun (z : Int32) (_ : Unit) => z = nI (sta (a * Rz + b) + ((c0 * bd (a * Rz + b) + d0) * (wd (a * Rz + b) * ht (a * Rz + b)) + e0))) (fun (_ : Unit) => [(x, .inr (8, [.ref pi, .ref tr, .ref rr, .ref o, .ref br, .ref wr, .ref rd, .ref hd, .int (nI (a * Rz + b)), .int (nI ((c0 * bd (a * Rz + b) + d0) * (wd (a * Rz + b) * ht (a * Rz + b)) + e0)), .int (bI wt), .int (nI lf), .int (nI lr)])), (pi, .inr (3, [.int (nI L), .int (nI Rz), .ref ab, .ref ap, .ref aw, .ref ah, .ref aq, .int (nI C)])), (ab, .inl (cI, 3 * Rz, .inl (fun j => nI (bd j)))), (ap, .inl (cI, 3 * Rz, .inl (fun j => nI (pr j)))), (aw, .inl (cI, 3 * Rz, .inl (fun j => nI (wd j)))), (ah, .inl (cI, 3 * Rz, .inl (fun j => nI (ht j)))), (aq, .inl (cI, 3 * Rz + 1, .inl (fun j => nI (sta j))))]) := by
  refine q_entI "PacketRows" (by decide) rfl (fun _ _ _ => rfl) rfl (Nat.le_of_ble_eq_true rfl) ?_
  intro p e s m below meth c ls Q A hx hb hml hts hown hP hD hK hZ hO hA hS hl hret
  have hl : lv_has ls 7 [(0, .ref x), (1, .int (nI a)), (2, .int (nI b)), (3, .int (nI c0)), (4, .int (nI d0)), (5, .int (nI e0))] := hl
  have hsl : a * Rz + b < 3 * Rz := m_in (show a < 3 by omega) hb9
  refine lv_aload_n hx hb dPR_choose_0 rfl (lv_at hl 0 rfl) ?_
  refine va_get (D := (dC, dI)) (ci := 8) (v := .ref pi) (C := "PacketRows") (T := TPR) (N := 13) hx hb hts inPR hown hK hP 0 rfl rfl 0 (by decide) (hU hts u_365) (fun _ h9 => h9) rfl dPR_choose_1 ?_
  refine lv_iload_n hx hb dPR_choose_4 rfl (lv_at hl 1 rfl) ?_
  refine lv_iload_n hx hb dPR_choose_5 rfl (lv_at hl 2 rfl) ?_
  refine vp_callSi (W.runV (As := [.int (nI a), .int (nI b)]) (rest := []) ⟨hx, hb, hml, hown, hts⟩ (k_Picture_slotOf l dC dI cI cZ cL pi ab ap aw ah aq L Rz C (3 * Rz) bd pr wd ht sta (nI a) (nI b) h1 h2) (cwV 2 hts (gV u_947 u_948 u_949 u_41 u_950) rfl rfl rfl (by decide +kernel) ⟨Nat.le_of_ble_eq_true rfl, Nat.le_of_ble_eq_true rfl⟩) (q_prePV hK hZ hP [1, 2, 3, 4, 5, 6] rfl rfl rfl) rfl rfl hl.1 rfl (lv_room (Nat.le_of_ble_eq_true rfl)) dPR_choose_6 ⟨Nat.le_of_ble_eq_true rfl, Nat.le_of_ble_eq_true rfl⟩) (fun r_ er_ => ?_)
  subst er_
  refine qn_eq (y := nI (a * Rz + b)) (m_slotOf_ok ha hb9 hc9 hr9) ?_
  refine lv_istore (lv' := [(6, .int (nI (a * Rz + b))), (0, .ref x), (1, .int (nI a)), (2, .int (nI b)), (3, .int (nI c0)), (4, .int (nI d0)), (5, .int (nI e0))]) hx hb dPR_choose_9 hl (by decide) rfl (fun ls hl => ?_)
  refine lv_iload hx hb dPR_choose_11 (lv_at hl 0 rfl) ?_
  refine lv_iconst (v := (-1)) hx hb dPR_choose_13 (by decide +kernel) ?_
  refine lv_icmp_eq (tgt := 34) hx hb dPR_choose_14 (by decide) (fun c_14 => ?_) (fun c_14 => ?_)
  · exact absurd c_14 (nI_nm9 (by omega))
  · refine lv_aload_n hx hb dPR_choose_17 rfl (lv_at hl 1 rfl) ?_
    refine va_get (D := (dC, dI)) (ci := 8) (v := .ref pi) (C := "PacketRows") (T := TPR) (N := 13) hx hb hts inPR hown hK hP 0 rfl rfl 0 (by decide) (hU hts u_365) (fun _ h9 => h9) rfl dPR_choose_18 ?_
    refine lv_iload hx hb dPR_choose_21 (lv_at hl 0 rfl) ?_
    refine lv_iload_n hx hb dPR_choose_23 rfl (lv_at hl 4 rfl) ?_
    refine lv_iload hx hb dPR_choose_24 (lv_at hl 5 rfl) ?_
    refine lv_iload hx hb dPR_choose_26 (lv_at hl 6 rfl) ?_
    refine vp_callSi (W.runV (As := [.int (nI (a * Rz + b)), .int (nI c0), .int (nI d0), .int (nI e0)]) (rest := []) ⟨hx, hb, hml, hown, hts⟩ (k_Picture_hasBlock l dC dI cI cZ cL pi ab ap aw ah aq L Rz C (3 * Rz) bd pr wd ht sta (a * Rz + b) (nI c0) (nI d0) (nI e0) hsl (by omega) (by omega) (by omega) (by omega)) (cwV 4 hts (gV u_981 u_982 u_983 u_41 u_984) rfl rfl rfl (by decide +kernel) ⟨Nat.le_of_ble_eq_true rfl, Nat.le_of_ble_eq_true rfl⟩) (q_prePV hK hZ hP [1, 2, 3, 4, 5, 6] rfl rfl rfl) rfl rfl hl.1 rfl (lv_room (Nat.le_of_ble_eq_true rfl)) dPR_choose_28 ⟨Nat.le_of_ble_eq_true rfl, Nat.le_of_ble_eq_true rfl⟩) (fun r_ er_ => ?_)
    subst er_
    refine qb_ine (tgt := 44) hx hb dPR_choose_31 (by decide) (fun c_31 => ?_) (fun c_31 => ?_)
    · refine lv_aload_n hx hb dPR_choose_44 rfl (lv_at hl 1 rfl) ?_
      refine lv_iload hx hb dPR_choose_45 (lv_at hl 0 rfl) ?_
      refine va_put (D := (dC, dI)) (ci := 8) (v := .int (nI (a * Rz + b))) (ty := .int) (C := "PacketRows") (T := TPR) (N := 13) hx hb hts inPR tyPR tyPR_ok nmPR hown hK hP hD hS 0 rfl rfl 8 (by decide) (hU hts u_373) (fun _ h9 => h9) rfl (by decide +kernel) rfl rfl (Nat.le_of_ble_eq_true rfl) dPR_choose_47 (fun H locs hP hD hS => ?_)
      have hP : va_P (dC, dI) vwCl [(x, .inr (8, [.ref pi, .ref tr, .ref rr, .ref o, .ref br, .ref wr, .ref rd, .ref hd, .int (nI (a * Rz + b)), .int (nI co), .int (bI wt), .int (nI lf), .int (nI lr)])), (pi, .inr (3, [.int (nI L), .int (nI Rz), .ref ab, .ref ap, .ref aw, .ref ah, .ref aq, .int (nI C)])), (ab, .inl (cI, 3 * Rz, .inl (fun j => nI (bd j)))), (ap, .inl (cI, 3 * Rz, .inl (fun j => nI (pr j)))), (aw, .inl (cI, 3 * Rz, .inl (fun j => nI (wd j)))), (ah, .inl (cI, 3 * Rz, .inl (fun j => nI (ht j)))), (aq, .inl (cI, 3 * Rz + 1, .inl (fun j => nI (sta j))))] H := hP
      have hD : va_D A [(x, .inr (8, [.ref pi, .ref tr, .ref rr, .ref o, .ref br, .ref wr, .ref rd, .ref hd, .int (nI (a * Rz + b)), .int (nI co), .int (bI wt), .int (nI lf), .int (nI lr)])), (pi, .inr (3, [.int (nI L), .int (nI Rz), .ref ab, .ref ap, .ref aw, .ref ah, .ref aq, .int (nI C)])), (ab, .inl (cI, 3 * Rz, .inl (fun j => nI (bd j)))), (ap, .inl (cI, 3 * Rz, .inl (fun j => nI (pr j)))), (aw, .inl (cI, 3 * Rz, .inl (fun j => nI (wd j)))), (ah, .inl (cI, 3 * Rz, .inl (fun j => nI (ht j)))), (aq, .inl (cI, 3 * Rz + 1, .inl (fun j => nI (sta j))))] := hD
      refine lv_aload_n hx hb dPR_choose_50 rfl (lv_at hl 1 rfl) ?_
      refine lv_iload_n hx hb dPR_choose_51 rfl (lv_at hl 4 rfl) ?_
      refine lv_aload_n hx hb dPR_choose_52 rfl (lv_at hl 1 rfl) ?_
      refine va_get (D := (dC, dI)) (ci := 8) (v := .ref pi) (C := "PacketRows") (T := TPR) (N := 13) hx hb hts inPR hown hK hP 0 rfl rfl 0 (by decide) (hU hts u_365) (fun _ h9 => h9) rfl dPR_choose_53 ?_
      refine va_get (D := (dC, dI)) (ci := 3) (v := .ref ab) (C := "PacketRows$Picture") (T := TPC) (N := 8) hx hb hts inPC hown hK hP 1 rfl rfl 2 (by decide) (hU hts u_118) (fun _ h9 => h9) rfl dPR_choose_56 ?_
      refine lv_iload hx hb dPR_choose_59 (lv_at hl 0 rfl) ?_
      refine qi_ald hx hb hK hP 2 0 rfl rfl (k := a * Rz + b) hsl (by omega) dPR_choose_61 ?_
      refine qn_imul hx hb dPR_choose_62 ?_
      refine lv_iload hx hb dPR_choose_63 (lv_at hl 5 rfl) ?_
      refine qn_iadd hx hb dPR_choose_65 ?_
      refine lv_aload_n hx hb dPR_choose_66 rfl (lv_at hl 1 rfl) ?_
      refine va_get (D := (dC, dI)) (ci := 8) (v := .ref pi) (C := "PacketRows") (T := TPR) (N := 13) hx hb hts inPR hown hK hP 0 rfl rfl 0 (by decide) (hU hts u_365) (fun _ h9 => h9) rfl dPR_choose_67 ?_
      refine lv_iload hx hb dPR_choose_70 (lv_at hl 0 rfl) ?_
      refine vp_callSi (W.runV (As := [.int (nI (a * Rz + b))]) (rest := [.int (nI (c0 * (bd (a * Rz + b)) + d0)), .ref x]) ⟨hx, hb, hml, hown, hts⟩ (k_Picture_bandSize l dC dI cI cZ cL pi ab ap aw ah aq L Rz C (3 * Rz) bd pr wd ht sta (a * Rz + b) hsl (by omega)) (cwV 1 hts (gV u_986 u_108 u_109 u_41 u_110) rfl rfl rfl (by decide +kernel) ⟨Nat.le_of_ble_eq_true rfl, Nat.le_of_ble_eq_true rfl⟩) (q_prePV hK hZ hP [1, 2, 3, 4, 5, 6] rfl rfl rfl) rfl rfl hl.1 rfl (lv_room (Nat.le_of_ble_eq_true rfl)) dPR_choose_72 ⟨Nat.le_of_ble_eq_true rfl, Nat.le_of_ble_eq_true rfl⟩) (fun r_ er_ => ?_)
      subst er_
      refine qn_imul hx hb dPR_choose_75 ?_
      refine lv_iload hx hb dPR_choose_76 (lv_at hl 6 rfl) ?_
      refine qn_iadd hx hb dPR_choose_78 ?_
      refine va_put (D := (dC, dI)) (ci := 8) (v := .int (nI ((c0 * (bd (a * Rz + b)) + d0) * (wd (a * Rz + b) * ht (a * Rz + b)) + e0))) (ty := .int) (C := "PacketRows") (T := TPR) (N := 13) hx hb hts inPR tyPR tyPR_ok nmPR hown hK hP hD hS 0 rfl rfl 9 (by decide) (hU hts u_374) (fun _ h9 => h9) rfl (by decide +kernel) rfl rfl (Nat.le_of_ble_eq_true rfl) dPR_choose_79 (fun H locs hP hD hS => ?_)
      have hP : va_P (dC, dI) vwCl [(x, .inr (8, [.ref pi, .ref tr, .ref rr, .ref o, .ref br, .ref wr, .ref rd, .ref hd, .int (nI (a * Rz + b)), .int (nI ((c0 * (bd (a * Rz + b)) + d0) * (wd (a * Rz + b) * ht (a * Rz + b)) + e0)), .int (bI wt), .int (nI lf), .int (nI lr)])), (pi, .inr (3, [.int (nI L), .int (nI Rz), .ref ab, .ref ap, .ref aw, .ref ah, .ref aq, .int (nI C)])), (ab, .inl (cI, 3 * Rz, .inl (fun j => nI (bd j)))), (ap, .inl (cI, 3 * Rz, .inl (fun j => nI (pr j)))), (aw, .inl (cI, 3 * Rz, .inl (fun j => nI (wd j)))), (ah, .inl (cI, 3 * Rz, .inl (fun j => nI (ht j)))), (aq, .inl (cI, 3 * Rz + 1, .inl (fun j => nI (sta j))))] H := hP
      have hD : va_D A [(x, .inr (8, [.ref pi, .ref tr, .ref rr, .ref o, .ref br, .ref wr, .ref rd, .ref hd, .int (nI (a * Rz + b)), .int (nI ((c0 * (bd (a * Rz + b)) + d0) * (wd (a * Rz + b) * ht (a * Rz + b)) + e0)), .int (bI wt), .int (nI lf), .int (nI lr)])), (pi, .inr (3, [.int (nI L), .int (nI Rz), .ref ab, .ref ap, .ref aw, .ref ah, .ref aq, .int (nI C)])), (ab, .inl (cI, 3 * Rz, .inl (fun j => nI (bd j)))), (ap, .inl (cI, 3 * Rz, .inl (fun j => nI (pr j)))), (aw, .inl (cI, 3 * Rz, .inl (fun j => nI (wd j)))), (ah, .inl (cI, 3 * Rz, .inl (fun j => nI (ht j)))), (aq, .inl (cI, 3 * Rz + 1, .inl (fun j => nI (sta j))))] := hD
      refine lv_aload_n hx hb dPR_choose_82 rfl (lv_at hl 1 rfl) ?_
      refine vp_callSi (W.runV (As := []) (rest := []) ⟨hx, hb, hml, hown, hts⟩ (k_PacketRows_chosenBlock l dC dI cI cZ cL x pi ab ap aw ah aq tr rr o br wr rd hd L Rz C (a * Rz + b) ((c0 * (bd (a * Rz + b)) + d0) * (wd (a * Rz + b) * ht (a * Rz + b)) + e0) lf lr bd pr wd ht sta wt (by omega) hr9) (cwV 0 hts (gV u_987 u_989 u_12 u_40 u_990) rfl rfl rfl (by decide +kernel) ⟨Nat.le_of_ble_eq_true rfl, Nat.le_of_ble_eq_true rfl⟩) (q_prePV hK hZ hP [0, 1, 2, 3, 4, 5, 6] rfl rfl rfl) rfl rfl hl.1 rfl (lv_room (Nat.le_of_ble_eq_true rfl)) dPR_choose_83 ⟨Nat.le_of_ble_eq_true rfl, Nat.le_of_ble_eq_true rfl⟩) (fun r_ er_ => ?_)
      subst er_
      exact hret _ () _ _ _ _ dPR_choose_86 rfl hP hS
    · exact absurd c_31 (by rw [m_has_ok p1 p2 p3 (by omega) (by omega) (by omega)]; decide)
set_option maxHeartbeats 4000000 in
set_option maxRecDepth 100000 in
theorem k_zero_ok (l : Launch) (dC : Nat → ClassId) (dI : Nat → Nat → Nat) (cI cZ cL : ClassId) (x : Nat) (pi : Nat) (ab : Nat) (ap : Nat) (aw : Nat) (ah : Nat) (aq : Nat) (tr : Nat) (tap : Nat) (tal : Nat) (taz : Nat) (rr : Nat) (o : Nat) (br : Nat) (wr : Nat) (rd : Nat) (hd : Nat) (L : Nat) (Rz : Nat) (C : Nat) (cs : Nat) (co : Nat) (lf : Nat) (lr : Nat) (bd : Nat → Nat) (pr : Nat → Nat) (wd : Nat → Nat) (ht : Nat → Nat) (sta : Nat → Nat) (tps : Nat → Nat) (tln : Nat → Nat) (tzs : Nat → Nat) (wt : Bool) (v : Nat) (h1 : cs < 3 * Rz + 1) (h0 : 1 ≤ Rz) (hr : Rz ≤ 4) (hk : sta cs + co < m_most Rz) (hv : v ≤ 30) :
    q_CV l (dC, dI) vwCl (tyL cI cZ cL) yPR_zero wsPR_zero (rmD 5) [.ref x, .int (nI v)] [(x, .inr (8, [.ref pi, .ref tr, .ref rr, .ref o, .ref br, .ref wr, .ref rd, .ref hd, .int (nI cs), .int (nI co), .int (bI wt), .int (nI lf), .int (nI lr)])), (pi, .inr (3, [.int (nI L), .int (nI Rz), .ref ab, .ref ap, .ref aw, .ref ah, .ref aq, .int (nI C)])), (ab, .inl (cI, 3 * Rz, .inl (fun j => nI (bd j)))), (ap, .inl (cI, 3 * Rz, .inl (fun j => nI (pr j)))), (aw, .inl (cI, 3 * Rz, .inl (fun j => nI (wd j)))), (ah, .inl (cI, 3 * Rz, .inl (fun j => nI (ht j)))), (aq, .inl (cI, 3 * Rz + 1, .inl (fun j => nI (sta j)))), (tr, .inr (5, [.int (nI L), .ref tap, .ref tal, .ref taz])), (tap, .inl (cI, m_most Rz * L, .inl (fun j => nI (tps j)))), (tal, .inl (cI, m_most Rz * L, .inl (fun j => nI (tln j)))), (taz, .inl (cI, m_most Rz, .inl (fun j => nI (tzs j))))] (fun (_ : Unit) => True) (fun (_ : Unit) => [(x, .inr (8, [.ref pi, .ref tr, .ref rr, .ref o, .ref br, .ref wr, .ref rd, .ref hd, .int (nI cs), .int (nI co), .int (bI false), .int (nI lf), .int (nI lr)])), (pi, .inr (3, [.int (nI L), .int (nI Rz), .ref ab, .ref ap, .ref aw, .ref ah, .ref aq, .int (nI C)])), (ab, .inl (cI, 3 * Rz, .inl (fun j => nI (bd j)))), (ap, .inl (cI, 3 * Rz, .inl (fun j => nI (pr j)))), (aw, .inl (cI, 3 * Rz, .inl (fun j => nI (wd j)))), (ah, .inl (cI, 3 * Rz, .inl (fun j => nI (ht j)))), (aq, .inl (cI, 3 * Rz + 1, .inl (fun j => nI (sta j)))), (tr, .inr (5, [.int (nI L), .ref tap, .ref tal, .ref taz])), (tap, .inl (cI, m_most Rz * L, .inl (fun j => nI (tps j)))), (tal, .inl (cI, m_most Rz * L, .inl (fun j => nI (tln j)))), (taz, .inl (cI, m_most Rz, .inl (fun j => nI ((va_up tzs (sta cs + co) v) j))))]) := by
  refine q_entV "PacketRows" (by decide) rfl rfl (Nat.le_of_ble_eq_true rfl) ?_
  intro p e s m below meth c ls Q A hx hb hml hts hown hP hD hK hZ hO hA hS hl hret
  have hl : lv_has ls 2 [(0, .ref x), (1, .int (nI v))] := hl
  have hmm := m_most_le h0 hr
  refine lv_iload_n hx hb dPR_zero_0 rfl (lv_at hl 1 rfl) ?_
  refine lv_iconst (v := nI 0) hx hb dPR_zero_1 (by decide +kernel) ?_
  refine lv_bipush (v := nI 30) hx hb dPR_zero_2 (by decide +kernel) ?_
  refine vp_callSi (W.runS (As := [.int (nI v), .int (nI 0), .int (nI 30)]) (rest := []) ⟨hx, hb, hml, hown, hts⟩ (k_PacketRows_isWithin l dC dI cI cZ cL (nI v) (nI 0) (nI 30) ) (va_cwS 3 hts (gS u_965 u_920 u_40 u_921) rfl rfl rfl (by decide +kernel) ⟨Nat.le_of_ble_eq_true rfl, Nat.le_of_ble_eq_true rfl⟩) (q_preP hK hZ hP [] rfl) rfl rfl hl.1 rfl (lv_room (Nat.le_of_ble_eq_true rfl)) dPR_zero_4 ⟨Nat.le_of_ble_eq_true rfl, Nat.le_of_ble_eq_true rfl⟩) (fun r_ er_ => ?_)
  subst er_
  refine qb_ine (tgt := 20) hx hb dPR_zero_7 (by decide) (fun c_7 => ?_) (fun c_7 => ?_)
  · refine lv_aload_n hx hb dPR_zero_20 rfl (lv_at hl 0 rfl) ?_
    refine va_get (D := (dC, dI)) (ci := 8) (v := .ref tr) (C := "PacketRows") (T := TPR) (N := 13) hx hb hts inPR hown hK hP 0 rfl rfl 1 (by decide) (hU hts u_366) (fun _ h9 => h9) rfl dPR_zero_21 ?_
    refine va_get (D := (dC, dI)) (ci := 5) (v := .ref taz) (C := "PacketRows$Rows") (T := TRW) (N := 4) hx hb hts inRW hown hK hP 7 rfl rfl 3 (by decide) (hU hts u_167) (fun _ h9 => h9) rfl dPR_zero_24 ?_
    refine lv_aload_n hx hb dPR_zero_27 rfl (lv_at hl 0 rfl) ?_
    refine vp_callSi (W.runV (As := []) (rest := [.ref taz]) ⟨hx, hb, hml, hown, hts⟩ (k_PacketRows_chosenBlock l dC dI cI cZ cL x pi ab ap aw ah aq tr rr o br wr rd hd L Rz C cs co lf lr bd pr wd ht sta wt h1 hr) (cwV 0 hts (gV u_987 u_989 u_12 u_40 u_990) rfl rfl rfl (by decide +kernel) ⟨Nat.le_of_ble_eq_true rfl, Nat.le_of_ble_eq_true rfl⟩) (q_prePV hK hZ hP [0, 1, 2, 3, 4, 5, 6] rfl rfl rfl) rfl rfl hl.1 rfl (lv_room (Nat.le_of_ble_eq_true rfl)) dPR_zero_28 ⟨Nat.le_of_ble_eq_true rfl, Nat.le_of_ble_eq_true rfl⟩) (fun r_ er_ => ?_)
    subst er_
    refine lv_iload_n hx hb dPR_zero_31 rfl (lv_at hl 1 rfl) ?_
    refine qi_ast hx hb hK hP hD hS 10 0 rfl rfl (k := sta cs + co) (v := v) hk (by omega) dPR_zero_32 (fun H locs hP hD hS => ?_)
    have hP : va_P (dC, dI) vwCl [(x, .inr (8, [.ref pi, .ref tr, .ref rr, .ref o, .ref br, .ref wr, .ref rd, .ref hd, .int (nI cs), .int (nI co), .int (bI wt), .int (nI lf), .int (nI lr)])), (pi, .inr (3, [.int (nI L), .int (nI Rz), .ref ab, .ref ap, .ref aw, .ref ah, .ref aq, .int (nI C)])), (ab, .inl (cI, 3 * Rz, .inl (fun j => nI (bd j)))), (ap, .inl (cI, 3 * Rz, .inl (fun j => nI (pr j)))), (aw, .inl (cI, 3 * Rz, .inl (fun j => nI (wd j)))), (ah, .inl (cI, 3 * Rz, .inl (fun j => nI (ht j)))), (aq, .inl (cI, 3 * Rz + 1, .inl (fun j => nI (sta j)))), (tr, .inr (5, [.int (nI L), .ref tap, .ref tal, .ref taz])), (tap, .inl (cI, m_most Rz * L, .inl (fun j => nI (tps j)))), (tal, .inl (cI, m_most Rz * L, .inl (fun j => nI (tln j)))), (taz, .inl (cI, m_most Rz, .inl (fun j => nI ((va_up tzs (sta cs + co) v) j))))] H := hP
    have hD : va_D A [(x, .inr (8, [.ref pi, .ref tr, .ref rr, .ref o, .ref br, .ref wr, .ref rd, .ref hd, .int (nI cs), .int (nI co), .int (bI wt), .int (nI lf), .int (nI lr)])), (pi, .inr (3, [.int (nI L), .int (nI Rz), .ref ab, .ref ap, .ref aw, .ref ah, .ref aq, .int (nI C)])), (ab, .inl (cI, 3 * Rz, .inl (fun j => nI (bd j)))), (ap, .inl (cI, 3 * Rz, .inl (fun j => nI (pr j)))), (aw, .inl (cI, 3 * Rz, .inl (fun j => nI (wd j)))), (ah, .inl (cI, 3 * Rz, .inl (fun j => nI (ht j)))), (aq, .inl (cI, 3 * Rz + 1, .inl (fun j => nI (sta j)))), (tr, .inr (5, [.int (nI L), .ref tap, .ref tal, .ref taz])), (tap, .inl (cI, m_most Rz * L, .inl (fun j => nI (tps j)))), (tal, .inl (cI, m_most Rz * L, .inl (fun j => nI (tln j)))), (taz, .inl (cI, m_most Rz, .inl (fun j => nI ((va_up tzs (sta cs + co) v) j))))] := hD
    refine lv_aload_n hx hb dPR_zero_33 rfl (lv_at hl 0 rfl) ?_
    refine lv_iconst (v := bI false) hx hb dPR_zero_34 (by decide +kernel) ?_
    refine va_put (D := (dC, dI)) (ci := 8) (v := .int (bI false)) (ty := .boolean) (C := "PacketRows") (T := TPR) (N := 13) hx hb hts inPR tyPR tyPR_ok nmPR hown hK hP hD hS 0 rfl rfl 10 (by decide) (hU hts u_375) (fun _ h9 => h9) rfl (by decide +kernel) (bI_nb _) (bI_fit _) (Nat.le_of_ble_eq_true rfl) dPR_zero_35 (fun H locs hP hD hS => ?_)
    have hP : va_P (dC, dI) vwCl [(x, .inr (8, [.ref pi, .ref tr, .ref rr, .ref o, .ref br, .ref wr, .ref rd, .ref hd, .int (nI cs), .int (nI co), .int (bI false), .int (nI lf), .int (nI lr)])), (pi, .inr (3, [.int (nI L), .int (nI Rz), .ref ab, .ref ap, .ref aw, .ref ah, .ref aq, .int (nI C)])), (ab, .inl (cI, 3 * Rz, .inl (fun j => nI (bd j)))), (ap, .inl (cI, 3 * Rz, .inl (fun j => nI (pr j)))), (aw, .inl (cI, 3 * Rz, .inl (fun j => nI (wd j)))), (ah, .inl (cI, 3 * Rz, .inl (fun j => nI (ht j)))), (aq, .inl (cI, 3 * Rz + 1, .inl (fun j => nI (sta j)))), (tr, .inr (5, [.int (nI L), .ref tap, .ref tal, .ref taz])), (tap, .inl (cI, m_most Rz * L, .inl (fun j => nI (tps j)))), (tal, .inl (cI, m_most Rz * L, .inl (fun j => nI (tln j)))), (taz, .inl (cI, m_most Rz, .inl (fun j => nI ((va_up tzs (sta cs + co) v) j))))] H := hP
    have hD : va_D A [(x, .inr (8, [.ref pi, .ref tr, .ref rr, .ref o, .ref br, .ref wr, .ref rd, .ref hd, .int (nI cs), .int (nI co), .int (bI false), .int (nI lf), .int (nI lr)])), (pi, .inr (3, [.int (nI L), .int (nI Rz), .ref ab, .ref ap, .ref aw, .ref ah, .ref aq, .int (nI C)])), (ab, .inl (cI, 3 * Rz, .inl (fun j => nI (bd j)))), (ap, .inl (cI, 3 * Rz, .inl (fun j => nI (pr j)))), (aw, .inl (cI, 3 * Rz, .inl (fun j => nI (wd j)))), (ah, .inl (cI, 3 * Rz, .inl (fun j => nI (ht j)))), (aq, .inl (cI, 3 * Rz + 1, .inl (fun j => nI (sta j)))), (tr, .inr (5, [.int (nI L), .ref tap, .ref tal, .ref taz])), (tap, .inl (cI, m_most Rz * L, .inl (fun j => nI (tps j)))), (tal, .inl (cI, m_most Rz * L, .inl (fun j => nI (tln j)))), (taz, .inl (cI, m_most Rz, .inl (fun j => nI ((va_up tzs (sta cs + co) v) j))))] := hD
    exact hret () _ _ _ _ dPR_zero_38 trivial hP hS
  · exact absurd c_7 (by rw [decide_eq_true (⟨(nI_leI (by omega) (by omega)).mpr (by omega), (nI_leI (by omega) (by omega)).mpr (by omega)⟩)]; decide)
set_option maxHeartbeats 4000000 in
set_option maxRecDepth 100000 in
theorem k_passes_ok (l : Launch) (dC : Nat → ClassId) (dI : Nat → Nat → Nat) (cI cZ cL : ClassId) (x : Nat) (pi : Nat) (ab : Nat) (ap : Nat) (aw : Nat) (ah : Nat) (aq : Nat) (tr : Nat) (tap : Nat) (tal : Nat) (taz : Nat) (rr : Nat) (o : Nat) (br : Nat) (wr : Nat) (rd : Nat) (hd : Nat) (L : Nat) (Rz : Nat) (C : Nat) (cs : Nat) (co : Nat) (lf : Nat) (lr : Nat) (bd : Nat → Nat) (pr : Nat → Nat) (wd : Nat → Nat) (ht : Nat → Nat) (sta : Nat → Nat) (tps : Nat → Nat) (tln : Nat → Nat) (tzs : Nat → Nat) (wt : Bool) (a n y : Nat) (h1 : cs < 3 * Rz + 1) (h0 : 1 ≤ Rz) (hr : Rz ≤ 4) (hk : sta cs + co < m_most Rz) (hL : 1 ≤ L ∧ L ≤ 8) (ha : a < L) (hn : n ≤ 164) (hy : y ≤ 65535) :
    q_CV l (dC, dI) vwCl (tyL cI cZ cL) yPR_passes wsPR_passes (rmD 5) [.ref x, .int (nI a), .int (nI n), .int (nI y)] [(x, .inr (8, [.ref pi, .ref tr, .ref rr, .ref o, .ref br, .ref wr, .ref rd, .ref hd, .int (nI cs), .int (nI co), .int (bI wt), .int (nI lf), .int (nI lr)])), (pi, .inr (3, [.int (nI L), .int (nI Rz), .ref ab, .ref ap, .ref aw, .ref ah, .ref aq, .int (nI C)])), (ab, .inl (cI, 3 * Rz, .inl (fun j => nI (bd j)))), (ap, .inl (cI, 3 * Rz, .inl (fun j => nI (pr j)))), (aw, .inl (cI, 3 * Rz, .inl (fun j => nI (wd j)))), (ah, .inl (cI, 3 * Rz, .inl (fun j => nI (ht j)))), (aq, .inl (cI, 3 * Rz + 1, .inl (fun j => nI (sta j)))), (tr, .inr (5, [.int (nI L), .ref tap, .ref tal, .ref taz])), (tap, .inl (cI, m_most Rz * L, .inl (fun j => nI (tps j)))), (tal, .inl (cI, m_most Rz * L, .inl (fun j => nI (tln j)))), (taz, .inl (cI, m_most Rz, .inl (fun j => nI (tzs j))))] (fun (_ : Unit) => True) (fun (_ : Unit) => [(x, .inr (8, [.ref pi, .ref tr, .ref rr, .ref o, .ref br, .ref wr, .ref rd, .ref hd, .int (nI cs), .int (nI co), .int (bI false), .int (nI lf), .int (nI lr)])), (pi, .inr (3, [.int (nI L), .int (nI Rz), .ref ab, .ref ap, .ref aw, .ref ah, .ref aq, .int (nI C)])), (ab, .inl (cI, 3 * Rz, .inl (fun j => nI (bd j)))), (ap, .inl (cI, 3 * Rz, .inl (fun j => nI (pr j)))), (aw, .inl (cI, 3 * Rz, .inl (fun j => nI (wd j)))), (ah, .inl (cI, 3 * Rz, .inl (fun j => nI (ht j)))), (aq, .inl (cI, 3 * Rz + 1, .inl (fun j => nI (sta j)))), (tr, .inr (5, [.int (nI L), .ref tap, .ref tal, .ref taz])), (tap, .inl (cI, m_most Rz * L, .inl (fun j => nI ((va_up tps ((sta cs + co) * L + a) n) j)))), (tal, .inl (cI, m_most Rz * L, .inl (fun j => nI ((va_up tln ((sta cs + co) * L + a) (m_l0 n y)) j)))), (taz, .inl (cI, m_most Rz, .inl (fun j => nI (tzs j))))]) := by
  refine q_entV "PacketRows" (by decide) rfl rfl (Nat.le_of_ble_eq_true rfl) ?_
  intro p e s m below meth c ls Q A hx hb hml hts hown hP hD hK hZ hO hA hS hl hret
  have hl : lv_has ls 4 [(0, .ref x), (1, .int (nI a)), (2, .int (nI n)), (3, .int (nI y))] := hl
  have hmm := m_most_le h0 hr
  have hml2 : m_most Rz * L ≤ 424 * 8 := Nat.mul_le_mul hmm.1 hL.2
  refine lv_iload_n hx hb dPR_passes_0 rfl (lv_at hl 1 rfl) ?_
  refine lv_iconst (v := nI 0) hx hb dPR_passes_1 (by decide +kernel) ?_
  refine lv_aload_n hx hb dPR_passes_2 rfl (lv_at hl 0 rfl) ?_
  refine va_get (D := (dC, dI)) (ci := 8) (v := .ref pi) (C := "PacketRows") (T := TPR) (N := 13) hx hb hts inPR hown hK hP 0 rfl rfl 0 (by decide) (hU hts u_365) (fun _ h9 => h9) rfl dPR_passes_3 ?_
  refine va_get (D := (dC, dI)) (ci := 3) (v := .int (nI L)) (C := "PacketRows$Picture") (T := TPC) (N := 8) hx hb hts inPC hown hK hP 1 rfl rfl 0 (by decide) (hU hts u_112) (fun _ h9 => h9) rfl dPR_passes_6 ?_
  refine lv_iconst (v := nI 1) hx hb dPR_passes_9 (by decide +kernel) ?_
  refine qn_isub hx hb dPR_passes_10 (by omega) ?_
  refine vp_callSi (W.runS (As := [.int (nI a), .int (nI 0), .int (nI (L - 1))]) (rest := []) ⟨hx, hb, hml, hown, hts⟩ (k_PacketRows_isWithin l dC dI cI cZ cL (nI a) (nI 0) (nI (L - 1)) ) (va_cwS 3 hts (gS u_965 u_920 u_40 u_921) rfl rfl rfl (by decide +kernel) ⟨Nat.le_of_ble_eq_true rfl, Nat.le_of_ble_eq_true rfl⟩) (q_preP hK hZ hP [] rfl) rfl rfl hl.1 rfl (lv_room (Nat.le_of_ble_eq_true rfl)) dPR_passes_11 ⟨Nat.le_of_ble_eq_true rfl, Nat.le_of_ble_eq_true rfl⟩) (fun r_ er_ => ?_)
  subst er_
  refine qb_ine (tgt := 27) hx hb dPR_passes_14 (by decide) (fun c_14 => ?_) (fun c_14 => ?_)
  · refine lv_iload_n hx hb dPR_passes_27 rfl (lv_at hl 2 rfl) ?_
    refine lv_iconst (v := nI 0) hx hb dPR_passes_28 (by decide +kernel) ?_
    refine lv_sipush (v := nI 164) hx hb dPR_passes_29 (by decide +kernel) ?_
    refine vp_callSi (W.runS (As := [.int (nI n), .int (nI 0), .int (nI 164)]) (rest := []) ⟨hx, hb, hml, hown, hts⟩ (k_PacketRows_isWithin l dC dI cI cZ cL (nI n) (nI 0) (nI 164) ) (va_cwS 3 hts (gS u_965 u_920 u_40 u_921) rfl rfl rfl (by decide +kernel) ⟨Nat.le_of_ble_eq_true rfl, Nat.le_of_ble_eq_true rfl⟩) (q_preP hK hZ hP [] rfl) rfl rfl hl.1 rfl (lv_room (Nat.le_of_ble_eq_true rfl)) dPR_passes_32 ⟨Nat.le_of_ble_eq_true rfl, Nat.le_of_ble_eq_true rfl⟩) (fun r_ er_ => ?_)
    subst er_
    refine qb_ieq (tgt := 48) hx hb dPR_passes_35 (by decide) (fun c_35 => ?_) (fun c_35 => ?_)
    · exact absurd c_35 (by rw [decide_eq_true (⟨(nI_leI (by omega) (by omega)).mpr (by omega), (nI_leI (by omega) (by omega)).mpr (by omega)⟩)]; decide)
    · refine lv_iload_n hx hb dPR_passes_38 rfl (lv_at hl 3 rfl) ?_
      refine lv_iconst (v := nI 0) hx hb dPR_passes_39 (by decide +kernel) ?_
      refine lv_ldc (v := nI 65535) hx hb hown (hU hts u_999) dPR_passes_40 ?_
      refine vp_callSi (W.runS (As := [.int (nI y), .int (nI 0), .int (nI 65535)]) (rest := []) ⟨hx, hb, hml, hown, hts⟩ (k_PacketRows_isWithin l dC dI cI cZ cL (nI y) (nI 0) (nI 65535) ) (va_cwS 3 hts (gS u_965 u_920 u_40 u_921) rfl rfl rfl (by decide +kernel) ⟨Nat.le_of_ble_eq_true rfl, Nat.le_of_ble_eq_true rfl⟩) (q_preP hK hZ hP [] rfl) rfl rfl hl.1 rfl (lv_room (Nat.le_of_ble_eq_true rfl)) dPR_passes_42 ⟨Nat.le_of_ble_eq_true rfl, Nat.le_of_ble_eq_true rfl⟩) (fun r_ er_ => ?_)
      subst er_
      refine qb_ine (tgt := 58) hx hb dPR_passes_45 (by decide) (fun c_45 => ?_) (fun c_45 => ?_)
      · refine lv_aload_n hx hb dPR_passes_58 rfl (lv_at hl 0 rfl) ?_
        refine va_get (D := (dC, dI)) (ci := 8) (v := .ref tr) (C := "PacketRows") (T := TPR) (N := 13) hx hb hts inPR hown hK hP 0 rfl rfl 1 (by decide) (hU hts u_366) (fun _ h9 => h9) rfl dPR_passes_59 ?_
        refine lv_aload_n hx hb dPR_passes_62 rfl (lv_at hl 0 rfl) ?_
        refine vp_callSi (W.runV (As := []) (rest := [.ref tr]) ⟨hx, hb, hml, hown, hts⟩ (k_PacketRows_chosenBlock l dC dI cI cZ cL x pi ab ap aw ah aq tr rr o br wr rd hd L Rz C cs co lf lr bd pr wd ht sta wt h1 hr) (cwV 0 hts (gV u_987 u_989 u_12 u_40 u_990) rfl rfl rfl (by decide +kernel) ⟨Nat.le_of_ble_eq_true rfl, Nat.le_of_ble_eq_true rfl⟩) (q_prePV hK hZ hP [0, 1, 2, 3, 4, 5, 6] rfl rfl rfl) rfl rfl hl.1 rfl (lv_room (Nat.le_of_ble_eq_true rfl)) dPR_passes_63 ⟨Nat.le_of_ble_eq_true rfl, Nat.le_of_ble_eq_true rfl⟩) (fun r_ er_ => ?_)
        subst er_
        refine lv_iload_n hx hb dPR_passes_66 rfl (lv_at hl 1 rfl) ?_
        refine lv_iload_n hx hb dPR_passes_67 rfl (lv_at hl 2 rfl) ?_
        refine lv_iload_n hx hb dPR_passes_68 rfl (lv_at hl 2 rfl) ?_
        have jn_77 : W p l e (headSpec wsPR_passes (rmD 5)).room s m [.ref x, .int (nI a), .int (nI n), .int (nI y)].toArray below meth c s.heap [] 0 0 Q (F0 m 77 ls [.int (nI (m_l0 n y)), .int (nI n), .int (nI a), .int (nI (sta cs + co)), .ref tr]) := by
          refine q_callv (va_runV (As := [.int (nI (sta cs + co)), .int (nI a), .int (nI n), .int (nI (m_l0 n y))]) (rest := []) ⟨hx, hb, hml, hown, hts⟩ (k_Rows_put l dC dI cI cZ cL tr tap tal taz L (m_most Rz) tps tln tzs (sta cs + co) a n (m_l0 n y) (m_in hk ha) (by omega) s.heap.size) (cwV 4 hts (gV u_1001 u_893 u_894 u_43 u_895) rfl rfl rfl (by decide +kernel) ⟨Nat.le_of_ble_eq_true rfl, Nat.le_of_ble_eq_true rfl⟩) (q_preMV hK hZ hO hS hA hP hD [7, 8, 9, 10] rfl (by decide) rfl rfl) rfl rfl hl.1 rfl (lv_room (Nat.le_of_ble_eq_true rfl)) dPR_passes_77 ⟨Nat.le_of_ble_eq_true rfl, Nat.le_of_ble_eq_true rfl⟩) hP hD hS hA [7, 8, 9, 10] rfl (by decide) (fun _ => by simp only [List.map_cons, List.map_nil]) (fun u_ H locs hpost hP hD hS => ?_)
          have hP : va_P (dC, dI) vwCl [(x, .inr (8, [.ref pi, .ref tr, .ref rr, .ref o, .ref br, .ref wr, .ref rd, .ref hd, .int (nI cs), .int (nI co), .int (bI wt), .int (nI lf), .int (nI lr)])), (pi, .inr (3, [.int (nI L), .int (nI Rz), .ref ab, .ref ap, .ref aw, .ref ah, .ref aq, .int (nI C)])), (ab, .inl (cI, 3 * Rz, .inl (fun j => nI (bd j)))), (ap, .inl (cI, 3 * Rz, .inl (fun j => nI (pr j)))), (aw, .inl (cI, 3 * Rz, .inl (fun j => nI (wd j)))), (ah, .inl (cI, 3 * Rz, .inl (fun j => nI (ht j)))), (aq, .inl (cI, 3 * Rz + 1, .inl (fun j => nI (sta j)))), (tr, .inr (5, [.int (nI L), .ref tap, .ref tal, .ref taz])), (tap, .inl (cI, (m_most Rz) * L, .inl (fun j => nI ((va_up tps ((sta cs + co) * L + a) n) j)))), (tal, .inl (cI, (m_most Rz) * L, .inl (fun j => nI ((va_up tln ((sta cs + co) * L + a) (m_l0 n y)) j)))), (taz, .inl (cI, m_most Rz, .inl (fun j => nI (tzs j))))] H := hP
          have hD : va_D A [(x, .inr (8, [.ref pi, .ref tr, .ref rr, .ref o, .ref br, .ref wr, .ref rd, .ref hd, .int (nI cs), .int (nI co), .int (bI wt), .int (nI lf), .int (nI lr)])), (pi, .inr (3, [.int (nI L), .int (nI Rz), .ref ab, .ref ap, .ref aw, .ref ah, .ref aq, .int (nI C)])), (ab, .inl (cI, 3 * Rz, .inl (fun j => nI (bd j)))), (ap, .inl (cI, 3 * Rz, .inl (fun j => nI (pr j)))), (aw, .inl (cI, 3 * Rz, .inl (fun j => nI (wd j)))), (ah, .inl (cI, 3 * Rz, .inl (fun j => nI (ht j)))), (aq, .inl (cI, 3 * Rz + 1, .inl (fun j => nI (sta j)))), (tr, .inr (5, [.int (nI L), .ref tap, .ref tal, .ref taz])), (tap, .inl (cI, (m_most Rz) * L, .inl (fun j => nI ((va_up tps ((sta cs + co) * L + a) n) j)))), (tal, .inl (cI, (m_most Rz) * L, .inl (fun j => nI ((va_up tln ((sta cs + co) * L + a) (m_l0 n y)) j)))), (taz, .inl (cI, m_most Rz, .inl (fun j => nI (tzs j))))] := hD
          refine lv_aload_n hx hb dPR_passes_80 rfl (lv_at hl 0 rfl) ?_
          refine lv_iconst (v := bI false) hx hb dPR_passes_81 (by decide +kernel) ?_
          refine va_put (D := (dC, dI)) (ci := 8) (v := .int (bI false)) (ty := .boolean) (C := "PacketRows") (T := TPR) (N := 13) hx hb hts inPR tyPR tyPR_ok nmPR hown hK hP hD hS 0 rfl rfl 10 (by decide) (hU hts u_375) (fun _ h9 => h9) rfl (by decide +kernel) (bI_nb _) (bI_fit _) (Nat.le_of_ble_eq_true rfl) dPR_passes_82 (fun H locs hP hD hS => ?_)
          have hP : va_P (dC, dI) vwCl [(x, .inr (8, [.ref pi, .ref tr, .ref rr, .ref o, .ref br, .ref wr, .ref rd, .ref hd, .int (nI cs), .int (nI co), .int (bI false), .int (nI lf), .int (nI lr)])), (pi, .inr (3, [.int (nI L), .int (nI Rz), .ref ab, .ref ap, .ref aw, .ref ah, .ref aq, .int (nI C)])), (ab, .inl (cI, 3 * Rz, .inl (fun j => nI (bd j)))), (ap, .inl (cI, 3 * Rz, .inl (fun j => nI (pr j)))), (aw, .inl (cI, 3 * Rz, .inl (fun j => nI (wd j)))), (ah, .inl (cI, 3 * Rz, .inl (fun j => nI (ht j)))), (aq, .inl (cI, 3 * Rz + 1, .inl (fun j => nI (sta j)))), (tr, .inr (5, [.int (nI L), .ref tap, .ref tal, .ref taz])), (tap, .inl (cI, (m_most Rz) * L, .inl (fun j => nI ((va_up tps ((sta cs + co) * L + a) n) j)))), (tal, .inl (cI, (m_most Rz) * L, .inl (fun j => nI ((va_up tln ((sta cs + co) * L + a) (m_l0 n y)) j)))), (taz, .inl (cI, m_most Rz, .inl (fun j => nI (tzs j))))] H := hP
          have hD : va_D A [(x, .inr (8, [.ref pi, .ref tr, .ref rr, .ref o, .ref br, .ref wr, .ref rd, .ref hd, .int (nI cs), .int (nI co), .int (bI false), .int (nI lf), .int (nI lr)])), (pi, .inr (3, [.int (nI L), .int (nI Rz), .ref ab, .ref ap, .ref aw, .ref ah, .ref aq, .int (nI C)])), (ab, .inl (cI, 3 * Rz, .inl (fun j => nI (bd j)))), (ap, .inl (cI, 3 * Rz, .inl (fun j => nI (pr j)))), (aw, .inl (cI, 3 * Rz, .inl (fun j => nI (wd j)))), (ah, .inl (cI, 3 * Rz, .inl (fun j => nI (ht j)))), (aq, .inl (cI, 3 * Rz + 1, .inl (fun j => nI (sta j)))), (tr, .inr (5, [.int (nI L), .ref tap, .ref tal, .ref taz])), (tap, .inl (cI, (m_most Rz) * L, .inl (fun j => nI ((va_up tps ((sta cs + co) * L + a) n) j)))), (tal, .inl (cI, (m_most Rz) * L, .inl (fun j => nI ((va_up tln ((sta cs + co) * L + a) (m_l0 n y)) j)))), (taz, .inl (cI, m_most Rz, .inl (fun j => nI (tzs j))))] := hD
          exact hret () _ _ _ _ dPR_passes_85 trivial hP hS
        refine qn_ine (tgt := 76) hx hb dPR_passes_69 (by decide) (by omega) (fun c_69 => ?_) (fun c_69 => ?_)
        · refine lv_iload_n hx hb dPR_passes_76 rfl (lv_at hl 3 rfl) ?_
          exact qn_eq (by unfold m_l0; first | rw [if_pos c_69] | rw [if_neg (by omega)]) jn_77
        · refine lv_iconst (v := nI 0) hx hb dPR_passes_72 (by decide +kernel) ?_
          refine lv_goto (tgt := 77) hx hb dPR_passes_73 (by decide) ?_
          exact qn_eq (by unfold m_l0; first | rw [if_pos c_69] | rw [if_neg (by omega)]) jn_77
      · exact absurd c_45 (by rw [decide_eq_true (⟨(nI_leI (by omega) (by omega)).mpr (by omega), (nI_leI (by omega) (by omega)).mpr (by omega)⟩)]; decide)
  · exact absurd c_14 (by rw [decide_eq_true (⟨(nI_leI (by omega) (by omega)).mpr (by omega), (nI_leI (by omega) (by omega)).mpr (by omega)⟩)]; decide)
set_option maxHeartbeats 4000000 in
set_option maxRecDepth 100000 in
theorem k_packet_ok (l : Launch) (dC : Nat → ClassId) (dI : Nat → Nat → Nat) (cI cZ cL : ClassId) (x : Nat) (pi : Nat) (tr : Nat) (rr : Nat) (o : Nat) (po : Nat) (pe : Nat) (pl : Nat) (li : Nat) (en : Nat) (ax : Nat) (br : Nat) (wr : Nat) (rd : Nat) (hd : Nat) (L : Nat) (Rz : Nat) (pts : Nat) (cs : Nat) (co : Nat) (lf : Nat) (lr : Nat) (fo : Nat → Nat) (fe : Nat → Nat) (fn : Nat → Nat) (X : lS) (wt : Bool) (k y : Nat) (hk : k < X.2.1) (hp : X.2.1 ≤ L * Rz * 3 * 4) (hL : 1 ≤ L ∧ L ≤ 8) (hr : Rz ≤ 4) (hy : y < 4) :
    q_CP l (dC, dI) vwCl (tyL cI cZ cL) yPR_packet wsPR_packet (rmD 5) [.ref x, .int (nI k), .int (nI y)] [(x, .inr (8, [.ref pi, .ref tr, .ref rr, .ref o, .ref br, .ref wr, .ref rd, .ref hd, .int (nI cs), .int (nI co), .int (bI wt), .int (nI lf), .int (nI lr)])), (o, .inr (2, [.ref pi, .ref po, .ref pe, .ref pl, .ref li, .ref en, .ref ax, .int (nI pts), .int (nI X.2.1)])), (po, .inl (cI, 6, .inl (fun j => nI (fo j)))), (pe, .inl (cI, 18, .inl (fun j => nI (fe j)))), (pl, .inl (cI, L * Rz * 3 * 4 * 4, .inl (fun j => nI (X.2.2.1 j)))), (li, .inl (cZ, L * Rz * 3 * 4, .inl (fun j => bI (X.2.2.2 j)))), (en, .inl (cI, 4, .inl (fun j => nI (fn j)))), (ax, .inl (cI, 4, .inl (fun j => nI (X.1 j))))] (nI (X.2.2.1 (k * 4 + y))) := by
  refine q_entP "PacketRows" (by decide) rfl rfl rfl (Nat.le_of_ble_eq_true rfl) ?_
  intro p e s m below meth c ls Q hx hb hml hts hown hP hK hZ hl hret
  have hl : lv_has ls 3 [(0, .ref x), (1, .int (nI k)), (2, .int (nI y))] := hl
  have hnp8 : L * Rz ≤ 8 * 4 := Nat.mul_le_mul hL.2 hr
  refine lv_iload_n hx hb dPR_packet_0 rfl (lv_at hl 1 rfl) ?_
  refine lv_iconst (v := nI 0) hx hb dPR_packet_1 (by decide +kernel) ?_
  refine lv_aload_n hx hb dPR_packet_2 rfl (lv_at hl 0 rfl) ?_
  refine va_get (D := (dC, dI)) (ci := 8) (v := .ref o) (C := "PacketRows") (T := TPR) (N := 13) hx hb hts inPR hown hK hP 0 rfl rfl 3 (by decide) (hU hts u_368) (fun _ h9 => h9) rfl dPR_packet_3 ?_
  refine va_get (D := (dC, dI)) (ci := 2) (v := .int (nI X.2.1)) (C := "PacketRows$Order") (T := TOD) (N := 9) hx hb hts inOD hown hK hP 1 rfl rfl 8 (by decide) (hU hts u_198) (fun _ h9 => h9) rfl dPR_packet_6 ?_
  refine lv_iconst (v := nI 1) hx hb dPR_packet_9 (by decide +kernel) ?_
  refine qn_isub hx hb dPR_packet_10 (by omega) ?_
  refine vp_callSi (W.runS (As := [.int (nI k), .int (nI 0), .int (nI (X.2.1 - 1))]) (rest := []) ⟨hx, hb, hml, hown, hts⟩ (k_PacketRows_isWithin l dC dI cI cZ cL (nI k) (nI 0) (nI (X.2.1 - 1)) ) (va_cwS 3 hts (gS u_965 u_920 u_40 u_921) rfl rfl rfl (by decide +kernel) ⟨Nat.le_of_ble_eq_true rfl, Nat.le_of_ble_eq_true rfl⟩) (q_preP hK hZ hP [] rfl) rfl rfl hl.1 rfl (lv_room (Nat.le_of_ble_eq_true rfl)) dPR_packet_11 ⟨Nat.le_of_ble_eq_true rfl, Nat.le_of_ble_eq_true rfl⟩) (fun r_ er_ => ?_)
  subst er_
  refine qb_ieq (tgt := 26) hx hb dPR_packet_14 (by decide) (fun c_14 => ?_) (fun c_14 => ?_)
  · exact absurd c_14 (by rw [decide_eq_true (⟨(nI_leI (by omega) (by omega)).mpr (by omega), (nI_leI (by omega) (by omega)).mpr (by omega)⟩)]; decide)
  · refine lv_iload_n hx hb dPR_packet_17 rfl (lv_at hl 2 rfl) ?_
    refine lv_iconst (v := nI 0) hx hb dPR_packet_18 (by decide +kernel) ?_
    refine lv_iconst (v := nI 4) hx hb dPR_packet_19 (by decide +kernel) ?_
    refine vp_callSi (W.runS (As := [.int (nI y), .int (nI 0), .int (nI 4)]) (rest := []) ⟨hx, hb, hml, hown, hts⟩ (k_PacketRows_isWithin l dC dI cI cZ cL (nI y) (nI 0) (nI 4) ) (va_cwS 3 hts (gS u_965 u_920 u_40 u_921) rfl rfl rfl (by decide +kernel) ⟨Nat.le_of_ble_eq_true rfl, Nat.le_of_ble_eq_true rfl⟩) (q_preP hK hZ hP [] rfl) rfl rfl hl.1 rfl (lv_room (Nat.le_of_ble_eq_true rfl)) dPR_packet_20 ⟨Nat.le_of_ble_eq_true rfl, Nat.le_of_ble_eq_true rfl⟩) (fun r_ er_ => ?_)
    subst er_
    refine qb_ine (tgt := 36) hx hb dPR_packet_23 (by decide) (fun c_23 => ?_) (fun c_23 => ?_)
    · refine lv_iload_n hx hb dPR_packet_36 rfl (lv_at hl 2 rfl) ?_
      refine lv_iconst (v := nI 4) hx hb dPR_packet_37 (by decide +kernel) ?_
      refine qn_cne (tgt := 62) hx hb dPR_packet_38 (by decide) (by omega) (by omega) (fun c_38 => ?_) (fun c_38 => ?_)
      · refine lv_aload_n hx hb dPR_packet_62 rfl (lv_at hl 0 rfl) ?_
        refine va_get (D := (dC, dI)) (ci := 8) (v := .ref o) (C := "PacketRows") (T := TPR) (N := 13) hx hb hts inPR hown hK hP 0 rfl rfl 3 (by decide) (hU hts u_368) (fun _ h9 => h9) rfl dPR_packet_63 ?_
        refine lv_iload_n hx hb dPR_packet_66 rfl (lv_at hl 1 rfl) ?_
        refine lv_iload_n hx hb dPR_packet_67 rfl (lv_at hl 2 rfl) ?_
        refine vp_callSi (W.runV (As := [.int (nI k), .int (nI y)]) (rest := []) ⟨hx, hb, hml, hown, hts⟩ (k_Order_placeOf l dC dI cI cZ cL o pi po pe pl li en ax pts X.2.1 (L * Rz * 3 * 4) fo fe X.2.2.1 fn X.1 X.2.2.2 k y (by omega) (by omega)) (cwV 2 hts (gV u_1030 u_833 u_834 u_44 u_835) rfl rfl rfl (by decide +kernel) ⟨Nat.le_of_ble_eq_true rfl, Nat.le_of_ble_eq_true rfl⟩) (q_prePV hK hZ hP [1, 2, 3, 4, 5, 6, 7] rfl rfl rfl) rfl rfl hl.1 rfl (lv_room (Nat.le_of_ble_eq_true rfl)) dPR_packet_68 ⟨Nat.le_of_ble_eq_true rfl, Nat.le_of_ble_eq_true rfl⟩) (fun r_ er_ => ?_)
        subst er_
        exact hret _ _ dPR_packet_71
      · exact absurd c_38 (by omega)
    · exact absurd c_23 (by rw [decide_eq_true (⟨(nI_leI (by omega) (by omega)).mpr (by omega), (nI_leI (by omega) (by omega)).mpr (by omega)⟩)]; decide)
set_option maxHeartbeats 4000000 in
set_option maxRecDepth 100000 in
theorem k_packet_4f (l : Launch) (dC : Nat → ClassId) (dI : Nat → Nat → Nat) (cI cZ cL : ClassId) (x : Nat) (pi : Nat) (tr : Nat) (rr : Nat) (o : Nat) (po : Nat) (pe : Nat) (pl : Nat) (li : Nat) (en : Nat) (ax : Nat) (br : Nat) (wr : Nat) (rd : Nat) (hd : Nat) (L : Nat) (Rz : Nat) (pts : Nat) (cs : Nat) (co : Nat) (lf : Nat) (lr : Nat) (fo : Nat → Nat) (fe : Nat → Nat) (fn : Nat → Nat) (X : lS) (wt : Bool) (k : Nat) (hk : k < X.2.1) (hp : X.2.1 ≤ L * Rz * 3 * 4) (hL : 1 ≤ L ∧ L ≤ 8) (hr : Rz ≤ 4) (hw : wt = false) :
    q_CP l (dC, dI) vwCl (tyL cI cZ cL) yPR_packet wsPR_packet (rmD 5) [.ref x, .int (nI k), .int (nI 4)] [(x, .inr (8, [.ref pi, .ref tr, .ref rr, .ref o, .ref br, .ref wr, .ref rd, .ref hd, .int (nI cs), .int (nI co), .int (bI wt), .int (nI lf), .int (nI lr)])), (o, .inr (2, [.ref pi, .ref po, .ref pe, .ref pl, .ref li, .ref en, .ref ax, .int (nI pts), .int (nI X.2.1)])), (po, .inl (cI, 6, .inl (fun j => nI (fo j)))), (pe, .inl (cI, 18, .inl (fun j => nI (fe j)))), (pl, .inl (cI, L * Rz * 3 * 4 * 4, .inl (fun j => nI (X.2.2.1 j)))), (li, .inl (cZ, L * Rz * 3 * 4, .inl (fun j => bI (X.2.2.2 j)))), (en, .inl (cI, 4, .inl (fun j => nI (fn j)))), (ax, .inl (cI, 4, .inl (fun j => nI (X.1 j))))] ((-1)) := by
  refine q_entP "PacketRows" (by decide) rfl rfl rfl (Nat.le_of_ble_eq_true rfl) ?_
  intro p e s m below meth c ls Q hx hb hml hts hown hP hK hZ hl hret
  have hl : lv_has ls 3 [(0, .ref x), (1, .int (nI k)), (2, .int (nI 4))] := hl
  have hnp8 : L * Rz ≤ 8 * 4 := Nat.mul_le_mul hL.2 hr
  refine lv_iload_n hx hb dPR_packet_0 rfl (lv_at hl 1 rfl) ?_
  refine lv_iconst (v := nI 0) hx hb dPR_packet_1 (by decide +kernel) ?_
  refine lv_aload_n hx hb dPR_packet_2 rfl (lv_at hl 0 rfl) ?_
  refine va_get (D := (dC, dI)) (ci := 8) (v := .ref o) (C := "PacketRows") (T := TPR) (N := 13) hx hb hts inPR hown hK hP 0 rfl rfl 3 (by decide) (hU hts u_368) (fun _ h9 => h9) rfl dPR_packet_3 ?_
  refine va_get (D := (dC, dI)) (ci := 2) (v := .int (nI X.2.1)) (C := "PacketRows$Order") (T := TOD) (N := 9) hx hb hts inOD hown hK hP 1 rfl rfl 8 (by decide) (hU hts u_198) (fun _ h9 => h9) rfl dPR_packet_6 ?_
  refine lv_iconst (v := nI 1) hx hb dPR_packet_9 (by decide +kernel) ?_
  refine qn_isub hx hb dPR_packet_10 (by omega) ?_
  refine vp_callSi (W.runS (As := [.int (nI k), .int (nI 0), .int (nI (X.2.1 - 1))]) (rest := []) ⟨hx, hb, hml, hown, hts⟩ (k_PacketRows_isWithin l dC dI cI cZ cL (nI k) (nI 0) (nI (X.2.1 - 1)) ) (va_cwS 3 hts (gS u_965 u_920 u_40 u_921) rfl rfl rfl (by decide +kernel) ⟨Nat.le_of_ble_eq_true rfl, Nat.le_of_ble_eq_true rfl⟩) (q_preP hK hZ hP [] rfl) rfl rfl hl.1 rfl (lv_room (Nat.le_of_ble_eq_true rfl)) dPR_packet_11 ⟨Nat.le_of_ble_eq_true rfl, Nat.le_of_ble_eq_true rfl⟩) (fun r_ er_ => ?_)
  subst er_
  refine qb_ieq (tgt := 26) hx hb dPR_packet_14 (by decide) (fun c_14 => ?_) (fun c_14 => ?_)
  · exact absurd c_14 (by rw [decide_eq_true (⟨(nI_leI (by omega) (by omega)).mpr (by omega), (nI_leI (by omega) (by omega)).mpr (by omega)⟩)]; decide)
  · refine lv_iload_n hx hb dPR_packet_17 rfl (lv_at hl 2 rfl) ?_
    refine lv_iconst (v := nI 0) hx hb dPR_packet_18 (by decide +kernel) ?_
    refine lv_iconst (v := nI 4) hx hb dPR_packet_19 (by decide +kernel) ?_
    refine vp_callSi (W.runS (As := [.int (nI 4), .int (nI 0), .int (nI 4)]) (rest := []) ⟨hx, hb, hml, hown, hts⟩ (k_PacketRows_isWithin l dC dI cI cZ cL (nI 4) (nI 0) (nI 4) ) (va_cwS 3 hts (gS u_965 u_920 u_40 u_921) rfl rfl rfl (by decide +kernel) ⟨Nat.le_of_ble_eq_true rfl, Nat.le_of_ble_eq_true rfl⟩) (q_preP hK hZ hP [] rfl) rfl rfl hl.1 rfl (lv_room (Nat.le_of_ble_eq_true rfl)) dPR_packet_20 ⟨Nat.le_of_ble_eq_true rfl, Nat.le_of_ble_eq_true rfl⟩) (fun r_ er_ => ?_)
    subst er_
    refine qb_ine (tgt := 36) hx hb dPR_packet_23 (by decide) (fun c_23 => ?_) (fun c_23 => ?_)
    · refine lv_iload_n hx hb dPR_packet_36 rfl (lv_at hl 2 rfl) ?_
      refine lv_iconst (v := nI 4) hx hb dPR_packet_37 (by decide +kernel) ?_
      refine qn_cne (tgt := 62) hx hb dPR_packet_38 (by decide) (by omega) (by omega) (fun c_38 => ?_) (fun c_38 => ?_)
      · exact absurd c_38 (by omega)
      · refine lv_aload_n hx hb dPR_packet_41 rfl (lv_at hl 0 rfl) ?_
        refine va_get (D := (dC, dI)) (ci := 8) (v := .int (bI wt)) (C := "PacketRows") (T := TPR) (N := 13) hx hb hts inPR hown hK hP 0 rfl rfl 10 (by decide) (hU hts u_375) (fun _ h9 => h9) rfl dPR_packet_42 ?_
        refine qb_ieq (tgt := 60) hx hb dPR_packet_45 (by decide) (fun c_45 => ?_) (fun c_45 => ?_)
        · refine lv_iconst (v := (-1)) hx hb dPR_packet_60 (by decide +kernel) ?_
          exact hret _ _ dPR_packet_61
        · exact absurd c_45 (by rw [hw]; decide)
    · exact absurd c_23 (by rw [decide_eq_true (⟨(nI_leI (by omega) (by omega)).mpr (by omega), (nI_leI (by omega) (by omega)).mpr (by omega)⟩)]; decide)
set_option maxHeartbeats 4000000 in
set_option maxRecDepth 100000 in
theorem k_packet_4t (l : Launch) (dC : Nat → ClassId) (dI : Nat → Nat → Nat) (cI cZ cL : ClassId) (x : Nat) (pi : Nat) (tr : Nat) (rr : Nat) (o : Nat) (po : Nat) (pe : Nat) (pl : Nat) (li : Nat) (en : Nat) (ax : Nat) (br : Nat) (wr : Nat) (bg : Nat) (rd : Nat) (hd : Nat) (L : Nat) (Rz : Nat) (pts : Nat) (wf : Nat) (wz : Nat) (wc : Nat) (wfr : Nat) (cs : Nat) (co : Nat) (lf : Nat) (lr : Nat) (fo : Nat → Nat) (fe : Nat → Nat) (fn : Nat → Nat) (bgf : Nat → Nat) (X : lS) (wm : Bool) (wt : Bool) (k : Nat) (hk : k < X.2.1) (hp : X.2.1 ≤ L * Rz * 3 * 4) (hL : 1 ≤ L ∧ L ≤ 8) (hr : Rz ≤ 4) (hw : wt = true) :
    q_CP l (dC, dI) vwCl (tyL cI cZ cL) yPR_packet wsPR_packet (rmD 5) [.ref x, .int (nI k), .int (nI 4)] [(x, .inr (8, [.ref pi, .ref tr, .ref rr, .ref o, .ref br, .ref wr, .ref rd, .ref hd, .int (nI cs), .int (nI co), .int (bI wt), .int (nI lf), .int (nI lr)])), (o, .inr (2, [.ref pi, .ref po, .ref pe, .ref pl, .ref li, .ref en, .ref ax, .int (nI pts), .int (nI X.2.1)])), (po, .inl (cI, 6, .inl (fun j => nI (fo j)))), (pe, .inl (cI, 18, .inl (fun j => nI (fe j)))), (pl, .inl (cI, L * Rz * 3 * 4 * 4, .inl (fun j => nI (X.2.2.1 j)))), (li, .inl (cZ, L * Rz * 3 * 4, .inl (fun j => bI (X.2.2.2 j)))), (en, .inl (cI, 4, .inl (fun j => nI (fn j)))), (ax, .inl (cI, 4, .inl (fun j => nI (X.1 j)))), (wr, .inr (7, [.int (nI wf), .ref br, .ref bg, .int (nI wz), .int (bI wm), .int (nI wc), .int (nI wfr)])), (bg, .inl (cI, L * Rz * 3 * 4, .inl (fun j => nI (bgf j))))] (nI (bgf k)) := by
  refine q_entP "PacketRows" (by decide) rfl rfl rfl (Nat.le_of_ble_eq_true rfl) ?_
  intro p e s m below meth c ls Q hx hb hml hts hown hP hK hZ hl hret
  have hl : lv_has ls 3 [(0, .ref x), (1, .int (nI k)), (2, .int (nI 4))] := hl
  have hnp8 : L * Rz ≤ 8 * 4 := Nat.mul_le_mul hL.2 hr
  refine lv_iload_n hx hb dPR_packet_0 rfl (lv_at hl 1 rfl) ?_
  refine lv_iconst (v := nI 0) hx hb dPR_packet_1 (by decide +kernel) ?_
  refine lv_aload_n hx hb dPR_packet_2 rfl (lv_at hl 0 rfl) ?_
  refine va_get (D := (dC, dI)) (ci := 8) (v := .ref o) (C := "PacketRows") (T := TPR) (N := 13) hx hb hts inPR hown hK hP 0 rfl rfl 3 (by decide) (hU hts u_368) (fun _ h9 => h9) rfl dPR_packet_3 ?_
  refine va_get (D := (dC, dI)) (ci := 2) (v := .int (nI X.2.1)) (C := "PacketRows$Order") (T := TOD) (N := 9) hx hb hts inOD hown hK hP 1 rfl rfl 8 (by decide) (hU hts u_198) (fun _ h9 => h9) rfl dPR_packet_6 ?_
  refine lv_iconst (v := nI 1) hx hb dPR_packet_9 (by decide +kernel) ?_
  refine qn_isub hx hb dPR_packet_10 (by omega) ?_
  refine vp_callSi (W.runS (As := [.int (nI k), .int (nI 0), .int (nI (X.2.1 - 1))]) (rest := []) ⟨hx, hb, hml, hown, hts⟩ (k_PacketRows_isWithin l dC dI cI cZ cL (nI k) (nI 0) (nI (X.2.1 - 1)) ) (va_cwS 3 hts (gS u_965 u_920 u_40 u_921) rfl rfl rfl (by decide +kernel) ⟨Nat.le_of_ble_eq_true rfl, Nat.le_of_ble_eq_true rfl⟩) (q_preP hK hZ hP [] rfl) rfl rfl hl.1 rfl (lv_room (Nat.le_of_ble_eq_true rfl)) dPR_packet_11 ⟨Nat.le_of_ble_eq_true rfl, Nat.le_of_ble_eq_true rfl⟩) (fun r_ er_ => ?_)
  subst er_
  refine qb_ieq (tgt := 26) hx hb dPR_packet_14 (by decide) (fun c_14 => ?_) (fun c_14 => ?_)
  · exact absurd c_14 (by rw [decide_eq_true (⟨(nI_leI (by omega) (by omega)).mpr (by omega), (nI_leI (by omega) (by omega)).mpr (by omega)⟩)]; decide)
  · refine lv_iload_n hx hb dPR_packet_17 rfl (lv_at hl 2 rfl) ?_
    refine lv_iconst (v := nI 0) hx hb dPR_packet_18 (by decide +kernel) ?_
    refine lv_iconst (v := nI 4) hx hb dPR_packet_19 (by decide +kernel) ?_
    refine vp_callSi (W.runS (As := [.int (nI 4), .int (nI 0), .int (nI 4)]) (rest := []) ⟨hx, hb, hml, hown, hts⟩ (k_PacketRows_isWithin l dC dI cI cZ cL (nI 4) (nI 0) (nI 4) ) (va_cwS 3 hts (gS u_965 u_920 u_40 u_921) rfl rfl rfl (by decide +kernel) ⟨Nat.le_of_ble_eq_true rfl, Nat.le_of_ble_eq_true rfl⟩) (q_preP hK hZ hP [] rfl) rfl rfl hl.1 rfl (lv_room (Nat.le_of_ble_eq_true rfl)) dPR_packet_20 ⟨Nat.le_of_ble_eq_true rfl, Nat.le_of_ble_eq_true rfl⟩) (fun r_ er_ => ?_)
    subst er_
    refine qb_ine (tgt := 36) hx hb dPR_packet_23 (by decide) (fun c_23 => ?_) (fun c_23 => ?_)
    · refine lv_iload_n hx hb dPR_packet_36 rfl (lv_at hl 2 rfl) ?_
      refine lv_iconst (v := nI 4) hx hb dPR_packet_37 (by decide +kernel) ?_
      refine qn_cne (tgt := 62) hx hb dPR_packet_38 (by decide) (by omega) (by omega) (fun c_38 => ?_) (fun c_38 => ?_)
      · exact absurd c_38 (by omega)
      · refine lv_aload_n hx hb dPR_packet_41 rfl (lv_at hl 0 rfl) ?_
        refine va_get (D := (dC, dI)) (ci := 8) (v := .int (bI wt)) (C := "PacketRows") (T := TPR) (N := 13) hx hb hts inPR hown hK hP 0 rfl rfl 10 (by decide) (hU hts u_375) (fun _ h9 => h9) rfl dPR_packet_42 ?_
        refine qb_ieq (tgt := 60) hx hb dPR_packet_45 (by decide) (fun c_45 => ?_) (fun c_45 => ?_)
        · exact absurd c_45 (by rw [hw]; decide)
        · refine lv_aload_n hx hb dPR_packet_48 rfl (lv_at hl 0 rfl) ?_
          refine va_get (D := (dC, dI)) (ci := 8) (v := .ref wr) (C := "PacketRows") (T := TPR) (N := 13) hx hb hts inPR hown hK hP 0 rfl rfl 5 (by decide) (hU hts u_370) (fun _ h9 => h9) rfl dPR_packet_49 ?_
          refine va_get (D := (dC, dI)) (ci := 7) (v := .ref bg) (C := "PacketRows$Writer") (T := TWR) (N := 7) hx hb hts inWR hown hK hP 8 rfl rfl 2 (by decide) (hU hts u_248) (fun _ h9 => h9) rfl dPR_packet_52 ?_
          refine lv_iload_n hx hb dPR_packet_55 rfl (lv_at hl 1 rfl) ?_
          refine qi_ald hx hb hK hP 9 0 rfl rfl (k := k) (by omega) (by omega) dPR_packet_56 ?_
          refine lv_goto (tgt := 61) hx hb dPR_packet_57 (by decide) ?_
          exact hret _ _ dPR_packet_61
    · exact absurd c_23 (by rw [decide_eq_true (⟨(nI_leI (by omega) (by omega)).mpr (by omega), (nI_leI (by omega) (by omega)).mpr (by omega)⟩)]; decide)
set_option maxHeartbeats 4000000 in
set_option maxRecDepth 100000 in
theorem k_told_0 (l : Launch) (dC : Nat → ClassId) (dI : Nat → Nat → Nat) (cI cZ cL : ClassId) (x : Nat) (pi : Nat) (tr : Nat) (rr : Nat) (o : Nat) (br : Nat) (row : Nat) (wr : Nat) (rd : Nat) (hd : Nat) (bz : Nat) (cs : Nat) (co : Nat) (lf : Nat) (lr : Nat) (f : Nat → Nat) (wt : Bool)  :
    q_CP l (dC, dI) vwCl (tyL cI cZ cL) yPR_told wsPR_told (rmD 5) [.ref x, .int (nI 0)] [(x, .inr (8, [.ref pi, .ref tr, .ref rr, .ref o, .ref br, .ref wr, .ref rd, .ref hd, .int (nI cs), .int (nI co), .int (bI wt), .int (nI lf), .int (nI lr)])), (br, .inr (0, [.ref row, .int (nI bz)])), (row, .inl (cI, 6000, .inl (fun j => nI (f j))))] (nI bz) := by
  refine q_entP "PacketRows" (by decide) rfl rfl rfl (Nat.le_of_ble_eq_true rfl) ?_
  intro p e s m below meth c ls Q hx hb hml hts hown hP hK hZ hl hret
  have hl : lv_has ls 2 [(0, .ref x), (1, .int (nI 0))] := hl
  refine lv_iload_n hx hb dPR_told_0 rfl (lv_at hl 1 rfl) ?_
  refine lv_tableIn (x := nI 0) (off := 39) (tgt := 40) hx hb dPR_told_1 (by decide +kernel) (by decide +kernel) rfl (by decide +kernel) ?_
  refine lv_aload_n hx hb dPR_told_40 rfl (lv_at hl 0 rfl) ?_
  refine va_get (D := (dC, dI)) (ci := 8) (v := .ref br) (C := "PacketRows") (T := TPR) (N := 13) hx hb hts inPR hown hK hP 0 rfl rfl 4 (by decide) (hU hts u_369) (fun _ h9 => h9) rfl dPR_told_41 ?_
  refine va_get (D := (dC, dI)) (ci := 0) (v := .int (nI bz)) (C := "PacketRows$ByteRow") (T := TBR) (N := 2) hx hb hts inBR hown hK hP 1 rfl rfl 1 (by decide) (hU hts u_230) (fun _ h9 => h9) rfl dPR_told_44 ?_
  exact hret _ _ dPR_told_47
set_option maxHeartbeats 4000000 in
set_option maxRecDepth 100000 in
theorem k_told_1 (l : Launch) (dC : Nat → ClassId) (dI : Nat → Nat → Nat) (cI cZ cL : ClassId) (x : Nat) (pi : Nat) (ab : Nat) (ap : Nat) (aw : Nat) (ah : Nat) (aq : Nat) (tr : Nat) (rr : Nat) (o : Nat) (br : Nat) (wr : Nat) (rd : Nat) (hd : Nat) (L : Nat) (Rz : Nat) (C : Nat) (cs : Nat) (co : Nat) (lf : Nat) (lr : Nat) (bd : Nat → Nat) (pr : Nat → Nat) (wd : Nat → Nat) (ht : Nat → Nat) (sta : Nat → Nat) (wt : Bool) (hs : C * Rz ≤ 3 * Rz) (hr : Rz ≤ 4) :
    q_CP l (dC, dI) vwCl (tyL cI cZ cL) yPR_told wsPR_told (rmD 5) [.ref x, .int (nI 1)] [(x, .inr (8, [.ref pi, .ref tr, .ref rr, .ref o, .ref br, .ref wr, .ref rd, .ref hd, .int (nI cs), .int (nI co), .int (bI wt), .int (nI lf), .int (nI lr)])), (pi, .inr (3, [.int (nI L), .int (nI Rz), .ref ab, .ref ap, .ref aw, .ref ah, .ref aq, .int (nI C)])), (ab, .inl (cI, 3 * Rz, .inl (fun j => nI (bd j)))), (ap, .inl (cI, 3 * Rz, .inl (fun j => nI (pr j)))), (aw, .inl (cI, 3 * Rz, .inl (fun j => nI (wd j)))), (ah, .inl (cI, 3 * Rz, .inl (fun j => nI (ht j)))), (aq, .inl (cI, 3 * Rz + 1, .inl (fun j => nI (sta j))))] (nI (sta (C * Rz))) := by
  refine q_entP "PacketRows" (by decide) rfl rfl rfl (Nat.le_of_ble_eq_true rfl) ?_
  intro p e s m below meth c ls Q hx hb hml hts hown hP hK hZ hl hret
  have hl : lv_has ls 2 [(0, .ref x), (1, .int (nI 1))] := hl
  refine lv_iload_n hx hb dPR_told_0 rfl (lv_at hl 1 rfl) ?_
  refine lv_tableIn (x := nI 1) (off := 47) (tgt := 48) hx hb dPR_told_1 (by decide +kernel) (by decide +kernel) rfl (by decide +kernel) ?_
  refine lv_aload_n hx hb dPR_told_48 rfl (lv_at hl 0 rfl) ?_
  refine va_get (D := (dC, dI)) (ci := 8) (v := .ref pi) (C := "PacketRows") (T := TPR) (N := 13) hx hb hts inPR hown hK hP 0 rfl rfl 0 (by decide) (hU hts u_365) (fun _ h9 => h9) rfl dPR_told_49 ?_
  refine vp_callSi (W.runV (As := []) (rest := []) ⟨hx, hb, hml, hown, hts⟩ (k_Picture_blocks l dC dI cI cZ cL pi ab ap aw ah aq L Rz C (3 * Rz) bd pr wd ht sta hs (by omega)) (cwV 0 hts (gV u_409 u_410 u_411 u_41 u_412) rfl rfl rfl (by decide +kernel) ⟨Nat.le_of_ble_eq_true rfl, Nat.le_of_ble_eq_true rfl⟩) (q_prePV hK hZ hP [1, 2, 3, 4, 5, 6] rfl rfl rfl) rfl rfl hl.1 rfl (lv_room (Nat.le_of_ble_eq_true rfl)) dPR_told_52 ⟨Nat.le_of_ble_eq_true rfl, Nat.le_of_ble_eq_true rfl⟩) (fun r_ er_ => ?_)
  subst er_
  exact hret _ _ dPR_told_55
set_option maxHeartbeats 4000000 in
set_option maxRecDepth 100000 in
theorem k_told_2 (l : Launch) (dC : Nat → ClassId) (dI : Nat → Nat → Nat) (cI cZ cL : ClassId) (x : Nat) (pi : Nat) (tr : Nat) (rr : Nat) (o : Nat) (po : Nat) (pe : Nat) (pl : Nat) (li : Nat) (en : Nat) (ax : Nat) (br : Nat) (wr : Nat) (rd : Nat) (hd : Nat) (L : Nat) (Rz : Nat) (pts : Nat) (cs : Nat) (co : Nat) (lf : Nat) (lr : Nat) (fo : Nat → Nat) (fe : Nat → Nat) (fn : Nat → Nat) (X : lS) (wt : Bool)  :
    q_CP l (dC, dI) vwCl (tyL cI cZ cL) yPR_told wsPR_told (rmD 5) [.ref x, .int (nI 2)] [(x, .inr (8, [.ref pi, .ref tr, .ref rr, .ref o, .ref br, .ref wr, .ref rd, .ref hd, .int (nI cs), .int (nI co), .int (bI wt), .int (nI lf), .int (nI lr)])), (o, .inr (2, [.ref pi, .ref po, .ref pe, .ref pl, .ref li, .ref en, .ref ax, .int (nI pts), .int (nI X.2.1)])), (po, .inl (cI, 6, .inl (fun j => nI (fo j)))), (pe, .inl (cI, 18, .inl (fun j => nI (fe j)))), (pl, .inl (cI, L * Rz * 3 * 4 * 4, .inl (fun j => nI (X.2.2.1 j)))), (li, .inl (cZ, L * Rz * 3 * 4, .inl (fun j => bI (X.2.2.2 j)))), (en, .inl (cI, 4, .inl (fun j => nI (fn j)))), (ax, .inl (cI, 4, .inl (fun j => nI (X.1 j))))] (nI pts) := by
  refine q_entP "PacketRows" (by decide) rfl rfl rfl (Nat.le_of_ble_eq_true rfl) ?_
  intro p e s m below meth c ls Q hx hb hml hts hown hP hK hZ hl hret
  have hl : lv_has ls 2 [(0, .ref x), (1, .int (nI 2))] := hl
  refine lv_iload_n hx hb dPR_told_0 rfl (lv_at hl 1 rfl) ?_
  refine lv_tableIn (x := nI 2) (off := 55) (tgt := 56) hx hb dPR_told_1 (by decide +kernel) (by decide +kernel) rfl (by decide +kernel) ?_
  refine lv_aload_n hx hb dPR_told_56 rfl (lv_at hl 0 rfl) ?_
  refine va_get (D := (dC, dI)) (ci := 8) (v := .ref o) (C := "PacketRows") (T := TPR) (N := 13) hx hb hts inPR hown hK hP 0 rfl rfl 3 (by decide) (hU hts u_368) (fun _ h9 => h9) rfl dPR_told_57 ?_
  refine va_get (D := (dC, dI)) (ci := 2) (v := .int (nI pts)) (C := "PacketRows$Order") (T := TOD) (N := 9) hx hb hts inOD hown hK hP 1 rfl rfl 7 (by decide) (hU hts u_195) (fun _ h9 => h9) rfl dPR_told_60 ?_
  exact hret _ _ dPR_told_63
set_option maxHeartbeats 4000000 in
set_option maxRecDepth 100000 in
theorem k_told_3 (l : Launch) (dC : Nat → ClassId) (dI : Nat → Nat → Nat) (cI cZ cL : ClassId) (x : Nat) (pi : Nat) (ab : Nat) (ap : Nat) (aw : Nat) (ah : Nat) (aq : Nat) (tr : Nat) (rr : Nat) (o : Nat) (br : Nat) (wr : Nat) (rd : Nat) (hd : Nat) (L : Nat) (Rz : Nat) (C : Nat) (cs : Nat) (co : Nat) (lf : Nat) (lr : Nat) (bd : Nat → Nat) (pr : Nat → Nat) (wd : Nat → Nat) (ht : Nat → Nat) (sta : Nat → Nat) (wt : Bool)  :
    q_CP l (dC, dI) vwCl (tyL cI cZ cL) yPR_told wsPR_told (rmD 5) [.ref x, .int (nI 3)] [(x, .inr (8, [.ref pi, .ref tr, .ref rr, .ref o, .ref br, .ref wr, .ref rd, .ref hd, .int (nI cs), .int (nI co), .int (bI wt), .int (nI lf), .int (nI lr)])), (pi, .inr (3, [.int (nI L), .int (nI Rz), .ref ab, .ref ap, .ref aw, .ref ah, .ref aq, .int (nI C)])), (ab, .inl (cI, 3 * Rz, .inl (fun j => nI (bd j)))), (ap, .inl (cI, 3 * Rz, .inl (fun j => nI (pr j)))), (aw, .inl (cI, 3 * Rz, .inl (fun j => nI (wd j)))), (ah, .inl (cI, 3 * Rz, .inl (fun j => nI (ht j)))), (aq, .inl (cI, 3 * Rz + 1, .inl (fun j => nI (sta j))))] (nI C) := by
  refine q_entP "PacketRows" (by decide) rfl rfl rfl (Nat.le_of_ble_eq_true rfl) ?_
  intro p e s m below meth c ls Q hx hb hml hts hown hP hK hZ hl hret
  have hl : lv_has ls 2 [(0, .ref x), (1, .int (nI 3))] := hl
  refine lv_iload_n hx hb dPR_told_0 rfl (lv_at hl 1 rfl) ?_
  refine lv_tableIn (x := nI 3) (off := 63) (tgt := 64) hx hb dPR_told_1 (by decide +kernel) (by decide +kernel) rfl (by decide +kernel) ?_
  refine lv_aload_n hx hb dPR_told_64 rfl (lv_at hl 0 rfl) ?_
  refine va_get (D := (dC, dI)) (ci := 8) (v := .ref pi) (C := "PacketRows") (T := TPR) (N := 13) hx hb hts inPR hown hK hP 0 rfl rfl 0 (by decide) (hU hts u_365) (fun _ h9 => h9) rfl dPR_told_65 ?_
  refine va_get (D := (dC, dI)) (ci := 3) (v := .int (nI C)) (C := "PacketRows$Picture") (T := TPC) (N := 8) hx hb hts inPC hown hK hP 1 rfl rfl 7 (by decide) (hU hts u_130) (fun _ h9 => h9) rfl dPR_told_68 ?_
  exact hret _ _ dPR_told_71
set_option maxHeartbeats 4000000 in
set_option maxRecDepth 100000 in
theorem k_told_4 (l : Launch) (dC : Nat → ClassId) (dI : Nat → Nat → Nat) (cI cZ cL : ClassId) (x : Nat) (pi : Nat) (tr : Nat) (rr : Nat) (o : Nat) (br : Nat) (wr : Nat) (rd : Nat) (hd : Nat) (cs : Nat) (co : Nat) (lf : Nat) (lr : Nat) (wt : Bool)  :
    q_CP l (dC, dI) vwCl (tyL cI cZ cL) yPR_told wsPR_told (rmD 5) [.ref x, .int (nI 4)] [(x, .inr (8, [.ref pi, .ref tr, .ref rr, .ref o, .ref br, .ref wr, .ref rd, .ref hd, .int (nI cs), .int (nI co), .int (bI wt), .int (nI lf), .int (nI lr)]))] (nI lf) := by
  refine q_entP "PacketRows" (by decide) rfl rfl rfl (Nat.le_of_ble_eq_true rfl) ?_
  intro p e s m below meth c ls Q hx hb hml hts hown hP hK hZ hl hret
  have hl : lv_has ls 2 [(0, .ref x), (1, .int (nI 4))] := hl
  refine lv_iload_n hx hb dPR_told_0 rfl (lv_at hl 1 rfl) ?_
  refine lv_tableIn (x := nI 4) (off := 71) (tgt := 72) hx hb dPR_told_1 (by decide +kernel) (by decide +kernel) rfl (by decide +kernel) ?_
  refine lv_aload_n hx hb dPR_told_72 rfl (lv_at hl 0 rfl) ?_
  refine va_get (D := (dC, dI)) (ci := 8) (v := .int (nI lf)) (C := "PacketRows") (T := TPR) (N := 13) hx hb hts inPR hown hK hP 0 rfl rfl 11 (by decide) (hU hts u_376) (fun _ h9 => h9) rfl dPR_told_73 ?_
  exact hret _ _ dPR_told_76
set_option maxHeartbeats 4000000 in
set_option maxRecDepth 100000 in
theorem k_told_5 (l : Launch) (dC : Nat → ClassId) (dI : Nat → Nat → Nat) (cI cZ cL : ClassId) (x : Nat) (pi : Nat) (tr : Nat) (rr : Nat) (o : Nat) (br : Nat) (wr : Nat) (rd : Nat) (hd : Nat) (cs : Nat) (co : Nat) (lf : Nat) (lr : Nat) (wt : Bool)  :
    q_CP l (dC, dI) vwCl (tyL cI cZ cL) yPR_told wsPR_told (rmD 5) [.ref x, .int (nI 5)] [(x, .inr (8, [.ref pi, .ref tr, .ref rr, .ref o, .ref br, .ref wr, .ref rd, .ref hd, .int (nI cs), .int (nI co), .int (bI wt), .int (nI lf), .int (nI lr)]))] (nI lr) := by
  refine q_entP "PacketRows" (by decide) rfl rfl rfl (Nat.le_of_ble_eq_true rfl) ?_
  intro p e s m below meth c ls Q hx hb hml hts hown hP hK hZ hl hret
  have hl : lv_has ls 2 [(0, .ref x), (1, .int (nI 5))] := hl
  refine lv_iload_n hx hb dPR_told_0 rfl (lv_at hl 1 rfl) ?_
  refine lv_tableIn (x := nI 5) (off := 76) (tgt := 77) hx hb dPR_told_1 (by decide +kernel) (by decide +kernel) rfl (by decide +kernel) ?_
  refine lv_aload_n hx hb dPR_told_77 rfl (lv_at hl 0 rfl) ?_
  refine va_get (D := (dC, dI)) (ci := 8) (v := .int (nI lr)) (C := "PacketRows") (T := TPR) (N := 13) hx hb hts inPR hown hK hP 0 rfl rfl 12 (by decide) (hU hts u_377) (fun _ h9 => h9) rfl dPR_told_78 ?_
  exact hret _ _ dPR_told_81
set_option maxHeartbeats 4000000 in
set_option maxRecDepth 100000 in
theorem k_got_0 (l : Launch) (dC : Nat → ClassId) (dI : Nat → Nat → Nat) (cI cZ cL : ClassId) (x : Nat) (pi : Nat) (ab : Nat) (ap : Nat) (aw : Nat) (ah : Nat) (aq : Nat) (tr : Nat) (rr : Nat) (rap : Nat) (ral : Nat) (raz : Nat) (o : Nat) (br : Nat) (wr : Nat) (rd : Nat) (hd : Nat) (L : Nat) (Rz : Nat) (C : Nat) (cs : Nat) (co : Nat) (lf : Nat) (lr : Nat) (bd : Nat → Nat) (pr : Nat → Nat) (wd : Nat → Nat) (ht : Nat → Nat) (sta : Nat → Nat) (rps : Nat → Nat) (rln : Nat → Nat) (rzs : Nat → Nat) (wt : Bool) (a : Nat) (h1 : cs < 3 * Rz + 1) (h0 : 1 ≤ Rz) (hr : Rz ≤ 4) (hk : sta cs + co < m_most Rz) (hL : 1 ≤ L ∧ L ≤ 8) (ha : a < L) :
    q_CP l (dC, dI) vwCl (tyL cI cZ cL) yPR_got wsPR_got (rmD 5) [.ref x, .int (nI a), .int (nI 0)] [(x, .inr (8, [.ref pi, .ref tr, .ref rr, .ref o, .ref br, .ref wr, .ref rd, .ref hd, .int (nI cs), .int (nI co), .int (bI wt), .int (nI lf), .int (nI lr)])), (pi, .inr (3, [.int (nI L), .int (nI Rz), .ref ab, .ref ap, .ref aw, .ref ah, .ref aq, .int (nI C)])), (ab, .inl (cI, 3 * Rz, .inl (fun j => nI (bd j)))), (ap, .inl (cI, 3 * Rz, .inl (fun j => nI (pr j)))), (aw, .inl (cI, 3 * Rz, .inl (fun j => nI (wd j)))), (ah, .inl (cI, 3 * Rz, .inl (fun j => nI (ht j)))), (aq, .inl (cI, 3 * Rz + 1, .inl (fun j => nI (sta j)))), (rr, .inr (5, [.int (nI L), .ref rap, .ref ral, .ref raz])), (rap, .inl (cI, m_most Rz * L, .inl (fun j => nI (rps j)))), (ral, .inl (cI, m_most Rz * L, .inl (fun j => nI (rln j)))), (raz, .inl (cI, m_most Rz, .inl (fun j => nI (rzs j))))] (nI (rps ((sta cs + co) * L + a))) := by
  refine q_entP "PacketRows" (by decide) rfl rfl rfl (Nat.le_of_ble_eq_true rfl) ?_
  intro p e s m below meth c ls Q hx hb hml hts hown hP hK hZ hl hret
  have hl : lv_has ls 5 [(0, .ref x), (1, .int (nI a)), (2, .int (nI 0))] := hl
  have hmm := m_most_le h0 hr
  have hml2 : m_most Rz * L ≤ 424 * 8 := Nat.mul_le_mul hmm.1 hL.2
  refine lv_iload_n hx hb dPR_got_0 rfl (lv_at hl 1 rfl) ?_
  refine lv_iconst (v := nI 0) hx hb dPR_got_1 (by decide +kernel) ?_
  refine lv_aload_n hx hb dPR_got_2 rfl (lv_at hl 0 rfl) ?_
  refine va_get (D := (dC, dI)) (ci := 8) (v := .ref pi) (C := "PacketRows") (T := TPR) (N := 13) hx hb hts inPR hown hK hP 0 rfl rfl 0 (by decide) (hU hts u_365) (fun _ h9 => h9) rfl dPR_got_3 ?_
  refine va_get (D := (dC, dI)) (ci := 3) (v := .int (nI L)) (C := "PacketRows$Picture") (T := TPC) (N := 8) hx hb hts inPC hown hK hP 1 rfl rfl 0 (by decide) (hU hts u_112) (fun _ h9 => h9) rfl dPR_got_6 ?_
  refine lv_iconst (v := nI 1) hx hb dPR_got_9 (by decide +kernel) ?_
  refine qn_isub hx hb dPR_got_10 (by omega) ?_
  refine vp_callSi (W.runS (As := [.int (nI a), .int (nI 0), .int (nI (L - 1))]) (rest := []) ⟨hx, hb, hml, hown, hts⟩ (k_PacketRows_isWithin l dC dI cI cZ cL (nI a) (nI 0) (nI (L - 1)) ) (va_cwS 3 hts (gS u_965 u_920 u_40 u_921) rfl rfl rfl (by decide +kernel) ⟨Nat.le_of_ble_eq_true rfl, Nat.le_of_ble_eq_true rfl⟩) (q_preP hK hZ hP [] rfl) rfl rfl hl.1 rfl (lv_room (Nat.le_of_ble_eq_true rfl)) dPR_got_11 ⟨Nat.le_of_ble_eq_true rfl, Nat.le_of_ble_eq_true rfl⟩) (fun r_ er_ => ?_)
  subst er_
  refine qb_ieq (tgt := 26) hx hb dPR_got_14 (by decide) (fun c_14 => ?_) (fun c_14 => ?_)
  · exact absurd c_14 (by rw [decide_eq_true (⟨(nI_leI (by omega) (by omega)).mpr (by omega), (nI_leI (by omega) (by omega)).mpr (by omega)⟩)]; decide)
  · refine lv_iload_n hx hb dPR_got_17 rfl (lv_at hl 2 rfl) ?_
    refine lv_iconst (v := nI 0) hx hb dPR_got_18 (by decide +kernel) ?_
    refine lv_iconst (v := nI 3) hx hb dPR_got_19 (by decide +kernel) ?_
    refine vp_callSi (W.runS (As := [.int (nI 0), .int (nI 0), .int (nI 3)]) (rest := []) ⟨hx, hb, hml, hown, hts⟩ (k_PacketRows_isWithin l dC dI cI cZ cL (nI 0) (nI 0) (nI 3) ) (va_cwS 3 hts (gS u_965 u_920 u_40 u_921) rfl rfl rfl (by decide +kernel) ⟨Nat.le_of_ble_eq_true rfl, Nat.le_of_ble_eq_true rfl⟩) (q_preP hK hZ hP [] rfl) rfl rfl hl.1 rfl (lv_room (Nat.le_of_ble_eq_true rfl)) dPR_got_20 ⟨Nat.le_of_ble_eq_true rfl, Nat.le_of_ble_eq_true rfl⟩) (fun r_ er_ => ?_)
    subst er_
    refine qb_ine (tgt := 36) hx hb dPR_got_23 (by decide) (fun c_23 => ?_) (fun c_23 => ?_)
    · refine lv_aload_n hx hb dPR_got_36 rfl (lv_at hl 0 rfl) ?_
      refine vp_callSi (W.runV (As := []) (rest := []) ⟨hx, hb, hml, hown, hts⟩ (k_PacketRows_chosenBlock l dC dI cI cZ cL x pi ab ap aw ah aq tr rr o br wr rd hd L Rz C cs co lf lr bd pr wd ht sta wt h1 hr) (cwV 0 hts (gV u_987 u_989 u_12 u_40 u_990) rfl rfl rfl (by decide +kernel) ⟨Nat.le_of_ble_eq_true rfl, Nat.le_of_ble_eq_true rfl⟩) (q_prePV hK hZ hP [0, 1, 2, 3, 4, 5, 6] rfl rfl rfl) rfl rfl hl.1 rfl (lv_room (Nat.le_of_ble_eq_true rfl)) dPR_got_37 ⟨Nat.le_of_ble_eq_true rfl, Nat.le_of_ble_eq_true rfl⟩) (fun r_ er_ => ?_)
      subst er_
      refine lv_istore_n (lv' := [(3, .int (nI (sta cs + co))), (0, .ref x), (1, .int (nI a)), (2, .int (nI 0))]) hx hb dPR_got_40 rfl hl (by decide) rfl (fun ls hl => ?_)
      refine lv_iload_n hx hb dPR_got_41 rfl (lv_at hl 3 rfl) ?_
      refine lv_tableIn (x := nI 0) (off := 26) (tgt := 68) hx hb dPR_got_42 (by decide +kernel) (by decide +kernel) rfl (by decide +kernel) ?_
      refine lv_aload_n hx hb dPR_got_68 rfl (lv_at hl 1 rfl) ?_
      refine va_get (D := (dC, dI)) (ci := 8) (v := .ref rr) (C := "PacketRows") (T := TPR) (N := 13) hx hb hts inPR hown hK hP 0 rfl rfl 2 (by decide) (hU hts u_367) (fun _ h9 => h9) rfl dPR_got_69 ?_
      refine lv_iload_n hx hb dPR_got_72 rfl (lv_at hl 0 rfl) ?_
      refine lv_iload_n hx hb dPR_got_73 rfl (lv_at hl 2 rfl) ?_
      refine vp_callSi (W.runV (As := [.int (nI (sta cs + co)), .int (nI a)]) (rest := []) ⟨hx, hb, hml, hown, hts⟩ (k_Rows_passesOf l dC dI cI cZ cL rr rap ral raz L (m_most Rz) rps rln rzs (sta cs + co) a (m_in hk ha) (by omega)) (cwV 2 hts (gV u_1051 u_807 u_808 u_43 u_809) rfl rfl rfl (by decide +kernel) ⟨Nat.le_of_ble_eq_true rfl, Nat.le_of_ble_eq_true rfl⟩) (q_prePV hK hZ hP [7, 8, 9, 10] rfl rfl rfl) rfl rfl hl.1 rfl (lv_room (Nat.le_of_ble_eq_true rfl)) dPR_got_74 ⟨Nat.le_of_ble_eq_true rfl, Nat.le_of_ble_eq_true rfl⟩) (fun r_ er_ => ?_)
      subst er_
      exact hret _ _ dPR_got_77
    · exact absurd c_23 (by rw [decide_eq_true (⟨(nI_leI (by omega) (by omega)).mpr (by omega), (nI_leI (by omega) (by omega)).mpr (by omega)⟩)]; decide)
set_option maxHeartbeats 4000000 in
set_option maxRecDepth 100000 in
theorem k_got_1 (l : Launch) (dC : Nat → ClassId) (dI : Nat → Nat → Nat) (cI cZ cL : ClassId) (x : Nat) (pi : Nat) (ab : Nat) (ap : Nat) (aw : Nat) (ah : Nat) (aq : Nat) (tr : Nat) (rr : Nat) (rap : Nat) (ral : Nat) (raz : Nat) (o : Nat) (br : Nat) (wr : Nat) (rd : Nat) (hd : Nat) (L : Nat) (Rz : Nat) (C : Nat) (cs : Nat) (co : Nat) (lf : Nat) (lr : Nat) (bd : Nat → Nat) (pr : Nat → Nat) (wd : Nat → Nat) (ht : Nat → Nat) (sta : Nat → Nat) (rps : Nat → Nat) (rln : Nat → Nat) (rzs : Nat → Nat) (wt : Bool) (a : Nat) (h1 : cs < 3 * Rz + 1) (h0 : 1 ≤ Rz) (hr : Rz ≤ 4) (hk : sta cs + co < m_most Rz) (hL : 1 ≤ L ∧ L ≤ 8) (ha : a < L) :
    q_CP l (dC, dI) vwCl (tyL cI cZ cL) yPR_got wsPR_got (rmD 5) [.ref x, .int (nI a), .int (nI 1)] [(x, .inr (8, [.ref pi, .ref tr, .ref rr, .ref o, .ref br, .ref wr, .ref rd, .ref hd, .int (nI cs), .int (nI co), .int (bI wt), .int (nI lf), .int (nI lr)])), (pi, .inr (3, [.int (nI L), .int (nI Rz), .ref ab, .ref ap, .ref aw, .ref ah, .ref aq, .int (nI C)])), (ab, .inl (cI, 3 * Rz, .inl (fun j => nI (bd j)))), (ap, .inl (cI, 3 * Rz, .inl (fun j => nI (pr j)))), (aw, .inl (cI, 3 * Rz, .inl (fun j => nI (wd j)))), (ah, .inl (cI, 3 * Rz, .inl (fun j => nI (ht j)))), (aq, .inl (cI, 3 * Rz + 1, .inl (fun j => nI (sta j)))), (rr, .inr (5, [.int (nI L), .ref rap, .ref ral, .ref raz])), (rap, .inl (cI, m_most Rz * L, .inl (fun j => nI (rps j)))), (ral, .inl (cI, m_most Rz * L, .inl (fun j => nI (rln j)))), (raz, .inl (cI, m_most Rz, .inl (fun j => nI (rzs j))))] (nI (rln ((sta cs + co) * L + a))) := by
  refine q_entP "PacketRows" (by decide) rfl rfl rfl (Nat.le_of_ble_eq_true rfl) ?_
  intro p e s m below meth c ls Q hx hb hml hts hown hP hK hZ hl hret
  have hl : lv_has ls 5 [(0, .ref x), (1, .int (nI a)), (2, .int (nI 1))] := hl
  have hmm := m_most_le h0 hr
  have hml2 : m_most Rz * L ≤ 424 * 8 := Nat.mul_le_mul hmm.1 hL.2
  refine lv_iload_n hx hb dPR_got_0 rfl (lv_at hl 1 rfl) ?_
  refine lv_iconst (v := nI 0) hx hb dPR_got_1 (by decide +kernel) ?_
  refine lv_aload_n hx hb dPR_got_2 rfl (lv_at hl 0 rfl) ?_
  refine va_get (D := (dC, dI)) (ci := 8) (v := .ref pi) (C := "PacketRows") (T := TPR) (N := 13) hx hb hts inPR hown hK hP 0 rfl rfl 0 (by decide) (hU hts u_365) (fun _ h9 => h9) rfl dPR_got_3 ?_
  refine va_get (D := (dC, dI)) (ci := 3) (v := .int (nI L)) (C := "PacketRows$Picture") (T := TPC) (N := 8) hx hb hts inPC hown hK hP 1 rfl rfl 0 (by decide) (hU hts u_112) (fun _ h9 => h9) rfl dPR_got_6 ?_
  refine lv_iconst (v := nI 1) hx hb dPR_got_9 (by decide +kernel) ?_
  refine qn_isub hx hb dPR_got_10 (by omega) ?_
  refine vp_callSi (W.runS (As := [.int (nI a), .int (nI 0), .int (nI (L - 1))]) (rest := []) ⟨hx, hb, hml, hown, hts⟩ (k_PacketRows_isWithin l dC dI cI cZ cL (nI a) (nI 0) (nI (L - 1)) ) (va_cwS 3 hts (gS u_965 u_920 u_40 u_921) rfl rfl rfl (by decide +kernel) ⟨Nat.le_of_ble_eq_true rfl, Nat.le_of_ble_eq_true rfl⟩) (q_preP hK hZ hP [] rfl) rfl rfl hl.1 rfl (lv_room (Nat.le_of_ble_eq_true rfl)) dPR_got_11 ⟨Nat.le_of_ble_eq_true rfl, Nat.le_of_ble_eq_true rfl⟩) (fun r_ er_ => ?_)
  subst er_
  refine qb_ieq (tgt := 26) hx hb dPR_got_14 (by decide) (fun c_14 => ?_) (fun c_14 => ?_)
  · exact absurd c_14 (by rw [decide_eq_true (⟨(nI_leI (by omega) (by omega)).mpr (by omega), (nI_leI (by omega) (by omega)).mpr (by omega)⟩)]; decide)
  · refine lv_iload_n hx hb dPR_got_17 rfl (lv_at hl 2 rfl) ?_
    refine lv_iconst (v := nI 0) hx hb dPR_got_18 (by decide +kernel) ?_
    refine lv_iconst (v := nI 3) hx hb dPR_got_19 (by decide +kernel) ?_
    refine vp_callSi (W.runS (As := [.int (nI 1), .int (nI 0), .int (nI 3)]) (rest := []) ⟨hx, hb, hml, hown, hts⟩ (k_PacketRows_isWithin l dC dI cI cZ cL (nI 1) (nI 0) (nI 3) ) (va_cwS 3 hts (gS u_965 u_920 u_40 u_921) rfl rfl rfl (by decide +kernel) ⟨Nat.le_of_ble_eq_true rfl, Nat.le_of_ble_eq_true rfl⟩) (q_preP hK hZ hP [] rfl) rfl rfl hl.1 rfl (lv_room (Nat.le_of_ble_eq_true rfl)) dPR_got_20 ⟨Nat.le_of_ble_eq_true rfl, Nat.le_of_ble_eq_true rfl⟩) (fun r_ er_ => ?_)
    subst er_
    refine qb_ine (tgt := 36) hx hb dPR_got_23 (by decide) (fun c_23 => ?_) (fun c_23 => ?_)
    · refine lv_aload_n hx hb dPR_got_36 rfl (lv_at hl 0 rfl) ?_
      refine vp_callSi (W.runV (As := []) (rest := []) ⟨hx, hb, hml, hown, hts⟩ (k_PacketRows_chosenBlock l dC dI cI cZ cL x pi ab ap aw ah aq tr rr o br wr rd hd L Rz C cs co lf lr bd pr wd ht sta wt h1 hr) (cwV 0 hts (gV u_987 u_989 u_12 u_40 u_990) rfl rfl rfl (by decide +kernel) ⟨Nat.le_of_ble_eq_true rfl, Nat.le_of_ble_eq_true rfl⟩) (q_prePV hK hZ hP [0, 1, 2, 3, 4, 5, 6] rfl rfl rfl) rfl rfl hl.1 rfl (lv_room (Nat.le_of_ble_eq_true rfl)) dPR_got_37 ⟨Nat.le_of_ble_eq_true rfl, Nat.le_of_ble_eq_true rfl⟩) (fun r_ er_ => ?_)
      subst er_
      refine lv_istore_n (lv' := [(3, .int (nI (sta cs + co))), (0, .ref x), (1, .int (nI a)), (2, .int (nI 1))]) hx hb dPR_got_40 rfl hl (by decide) rfl (fun ls hl => ?_)
      refine lv_iload_n hx hb dPR_got_41 rfl (lv_at hl 3 rfl) ?_
      refine lv_tableIn (x := nI 1) (off := 36) (tgt := 78) hx hb dPR_got_42 (by decide +kernel) (by decide +kernel) rfl (by decide +kernel) ?_
      refine lv_aload_n hx hb dPR_got_78 rfl (lv_at hl 1 rfl) ?_
      refine va_get (D := (dC, dI)) (ci := 8) (v := .ref rr) (C := "PacketRows") (T := TPR) (N := 13) hx hb hts inPR hown hK hP 0 rfl rfl 2 (by decide) (hU hts u_367) (fun _ h9 => h9) rfl dPR_got_79 ?_
      refine lv_iload_n hx hb dPR_got_82 rfl (lv_at hl 0 rfl) ?_
      refine lv_iload_n hx hb dPR_got_83 rfl (lv_at hl 2 rfl) ?_
      refine vp_callSi (W.runV (As := [.int (nI (sta cs + co)), .int (nI a)]) (rest := []) ⟨hx, hb, hml, hown, hts⟩ (k_Rows_lengthOf l dC dI cI cZ cL rr rap ral raz L (m_most Rz) rps rln rzs (sta cs + co) a (m_in hk ha) (by omega)) (cwV 2 hts (gV u_1052 u_882 u_883 u_43 u_884) rfl rfl rfl (by decide +kernel) ⟨Nat.le_of_ble_eq_true rfl, Nat.le_of_ble_eq_true rfl⟩) (q_prePV hK hZ hP [7, 8, 9, 10] rfl rfl rfl) rfl rfl hl.1 rfl (lv_room (Nat.le_of_ble_eq_true rfl)) dPR_got_84 ⟨Nat.le_of_ble_eq_true rfl, Nat.le_of_ble_eq_true rfl⟩) (fun r_ er_ => ?_)
      subst er_
      exact hret _ _ dPR_got_87
    · exact absurd c_23 (by rw [decide_eq_true (⟨(nI_leI (by omega) (by omega)).mpr (by omega), (nI_leI (by omega) (by omega)).mpr (by omega)⟩)]; decide)
set_option maxHeartbeats 4000000 in
set_option maxRecDepth 100000 in
theorem k_got_2 (l : Launch) (dC : Nat → ClassId) (dI : Nat → Nat → Nat) (cI cZ cL : ClassId) (x : Nat) (pi : Nat) (ab : Nat) (ap : Nat) (aw : Nat) (ah : Nat) (aq : Nat) (tr : Nat) (rr : Nat) (rap : Nat) (ral : Nat) (raz : Nat) (o : Nat) (br : Nat) (wr : Nat) (rd : Nat) (hd : Nat) (L : Nat) (Rz : Nat) (C : Nat) (cs : Nat) (co : Nat) (lf : Nat) (lr : Nat) (bd : Nat → Nat) (pr : Nat → Nat) (wd : Nat → Nat) (ht : Nat → Nat) (sta : Nat → Nat) (rps : Nat → Nat) (rln : Nat → Nat) (rzs : Nat → Nat) (wt : Bool) (a : Nat) (h1 : cs < 3 * Rz + 1) (h0 : 1 ≤ Rz) (hr : Rz ≤ 4) (hk : sta cs + co < m_most Rz) (hL : 1 ≤ L ∧ L ≤ 8) (ha : a < L) :
    q_CP l (dC, dI) vwCl (tyL cI cZ cL) yPR_got wsPR_got (rmD 5) [.ref x, .int (nI a), .int (nI 2)] [(x, .inr (8, [.ref pi, .ref tr, .ref rr, .ref o, .ref br, .ref wr, .ref rd, .ref hd, .int (nI cs), .int (nI co), .int (bI wt), .int (nI lf), .int (nI lr)])), (pi, .inr (3, [.int (nI L), .int (nI Rz), .ref ab, .ref ap, .ref aw, .ref ah, .ref aq, .int (nI C)])), (ab, .inl (cI, 3 * Rz, .inl (fun j => nI (bd j)))), (ap, .inl (cI, 3 * Rz, .inl (fun j => nI (pr j)))), (aw, .inl (cI, 3 * Rz, .inl (fun j => nI (wd j)))), (ah, .inl (cI, 3 * Rz, .inl (fun j => nI (ht j)))), (aq, .inl (cI, 3 * Rz + 1, .inl (fun j => nI (sta j)))), (rr, .inr (5, [.int (nI L), .ref rap, .ref ral, .ref raz])), (rap, .inl (cI, m_most Rz * L, .inl (fun j => nI (rps j)))), (ral, .inl (cI, m_most Rz * L, .inl (fun j => nI (rln j)))), (raz, .inl (cI, m_most Rz, .inl (fun j => nI (rzs j))))] (nI (rzs (sta cs + co))) := by
  refine q_entP "PacketRows" (by decide) rfl rfl rfl (Nat.le_of_ble_eq_true rfl) ?_
  intro p e s m below meth c ls Q hx hb hml hts hown hP hK hZ hl hret
  have hl : lv_has ls 5 [(0, .ref x), (1, .int (nI a)), (2, .int (nI 2))] := hl
  have hmm := m_most_le h0 hr
  have hml2 : m_most Rz * L ≤ 424 * 8 := Nat.mul_le_mul hmm.1 hL.2
  refine lv_iload_n hx hb dPR_got_0 rfl (lv_at hl 1 rfl) ?_
  refine lv_iconst (v := nI 0) hx hb dPR_got_1 (by decide +kernel) ?_
  refine lv_aload_n hx hb dPR_got_2 rfl (lv_at hl 0 rfl) ?_
  refine va_get (D := (dC, dI)) (ci := 8) (v := .ref pi) (C := "PacketRows") (T := TPR) (N := 13) hx hb hts inPR hown hK hP 0 rfl rfl 0 (by decide) (hU hts u_365) (fun _ h9 => h9) rfl dPR_got_3 ?_
  refine va_get (D := (dC, dI)) (ci := 3) (v := .int (nI L)) (C := "PacketRows$Picture") (T := TPC) (N := 8) hx hb hts inPC hown hK hP 1 rfl rfl 0 (by decide) (hU hts u_112) (fun _ h9 => h9) rfl dPR_got_6 ?_
  refine lv_iconst (v := nI 1) hx hb dPR_got_9 (by decide +kernel) ?_
  refine qn_isub hx hb dPR_got_10 (by omega) ?_
  refine vp_callSi (W.runS (As := [.int (nI a), .int (nI 0), .int (nI (L - 1))]) (rest := []) ⟨hx, hb, hml, hown, hts⟩ (k_PacketRows_isWithin l dC dI cI cZ cL (nI a) (nI 0) (nI (L - 1)) ) (va_cwS 3 hts (gS u_965 u_920 u_40 u_921) rfl rfl rfl (by decide +kernel) ⟨Nat.le_of_ble_eq_true rfl, Nat.le_of_ble_eq_true rfl⟩) (q_preP hK hZ hP [] rfl) rfl rfl hl.1 rfl (lv_room (Nat.le_of_ble_eq_true rfl)) dPR_got_11 ⟨Nat.le_of_ble_eq_true rfl, Nat.le_of_ble_eq_true rfl⟩) (fun r_ er_ => ?_)
  subst er_
  refine qb_ieq (tgt := 26) hx hb dPR_got_14 (by decide) (fun c_14 => ?_) (fun c_14 => ?_)
  · exact absurd c_14 (by rw [decide_eq_true (⟨(nI_leI (by omega) (by omega)).mpr (by omega), (nI_leI (by omega) (by omega)).mpr (by omega)⟩)]; decide)
  · refine lv_iload_n hx hb dPR_got_17 rfl (lv_at hl 2 rfl) ?_
    refine lv_iconst (v := nI 0) hx hb dPR_got_18 (by decide +kernel) ?_
    refine lv_iconst (v := nI 3) hx hb dPR_got_19 (by decide +kernel) ?_
    refine vp_callSi (W.runS (As := [.int (nI 2), .int (nI 0), .int (nI 3)]) (rest := []) ⟨hx, hb, hml, hown, hts⟩ (k_PacketRows_isWithin l dC dI cI cZ cL (nI 2) (nI 0) (nI 3) ) (va_cwS 3 hts (gS u_965 u_920 u_40 u_921) rfl rfl rfl (by decide +kernel) ⟨Nat.le_of_ble_eq_true rfl, Nat.le_of_ble_eq_true rfl⟩) (q_preP hK hZ hP [] rfl) rfl rfl hl.1 rfl (lv_room (Nat.le_of_ble_eq_true rfl)) dPR_got_20 ⟨Nat.le_of_ble_eq_true rfl, Nat.le_of_ble_eq_true rfl⟩) (fun r_ er_ => ?_)
    subst er_
    refine qb_ine (tgt := 36) hx hb dPR_got_23 (by decide) (fun c_23 => ?_) (fun c_23 => ?_)
    · refine lv_aload_n hx hb dPR_got_36 rfl (lv_at hl 0 rfl) ?_
      refine vp_callSi (W.runV (As := []) (rest := []) ⟨hx, hb, hml, hown, hts⟩ (k_PacketRows_chosenBlock l dC dI cI cZ cL x pi ab ap aw ah aq tr rr o br wr rd hd L Rz C cs co lf lr bd pr wd ht sta wt h1 hr) (cwV 0 hts (gV u_987 u_989 u_12 u_40 u_990) rfl rfl rfl (by decide +kernel) ⟨Nat.le_of_ble_eq_true rfl, Nat.le_of_ble_eq_true rfl⟩) (q_prePV hK hZ hP [0, 1, 2, 3, 4, 5, 6] rfl rfl rfl) rfl rfl hl.1 rfl (lv_room (Nat.le_of_ble_eq_true rfl)) dPR_got_37 ⟨Nat.le_of_ble_eq_true rfl, Nat.le_of_ble_eq_true rfl⟩) (fun r_ er_ => ?_)
      subst er_
      refine lv_istore_n (lv' := [(3, .int (nI (sta cs + co))), (0, .ref x), (1, .int (nI a)), (2, .int (nI 2))]) hx hb dPR_got_40 rfl hl (by decide) rfl (fun ls hl => ?_)
      refine lv_iload_n hx hb dPR_got_41 rfl (lv_at hl 3 rfl) ?_
      refine lv_tableIn (x := nI 2) (off := 46) (tgt := 88) hx hb dPR_got_42 (by decide +kernel) (by decide +kernel) rfl (by decide +kernel) ?_
      refine lv_aload_n hx hb dPR_got_88 rfl (lv_at hl 1 rfl) ?_
      refine va_get (D := (dC, dI)) (ci := 8) (v := .ref rr) (C := "PacketRows") (T := TPR) (N := 13) hx hb hts inPR hown hK hP 0 rfl rfl 2 (by decide) (hU hts u_367) (fun _ h9 => h9) rfl dPR_got_89 ?_
      refine va_get (D := (dC, dI)) (ci := 5) (v := .ref raz) (C := "PacketRows$Rows") (T := TRW) (N := 4) hx hb hts inRW hown hK hP 7 rfl rfl 3 (by decide) (hU hts u_167) (fun _ h9 => h9) rfl dPR_got_92 ?_
      refine lv_iload_n hx hb dPR_got_95 rfl (lv_at hl 0 rfl) ?_
      refine qi_ald hx hb hK hP 10 0 rfl rfl (k := sta cs + co) hk (by omega) dPR_got_96 ?_
      exact hret _ _ dPR_got_97
    · exact absurd c_23 (by rw [decide_eq_true (⟨(nI_leI (by omega) (by omega)).mpr (by omega), (nI_leI (by omega) (by omega)).mpr (by omega)⟩)]; decide)
set_option maxHeartbeats 4000000 in
set_option maxRecDepth 100000 in
theorem k_got_3 (l : Launch) (dC : Nat → ClassId) (dI : Nat → Nat → Nat) (cI cZ cL : ClassId) (x : Nat) (pi : Nat) (ab : Nat) (ap : Nat) (aw : Nat) (ah : Nat) (aq : Nat) (tr : Nat) (rr : Nat) (rap : Nat) (ral : Nat) (raz : Nat) (o : Nat) (br : Nat) (wr : Nat) (rd : Nat) (hd : Nat) (L : Nat) (Rz : Nat) (C : Nat) (cs : Nat) (co : Nat) (lf : Nat) (lr : Nat) (bd : Nat → Nat) (pr : Nat → Nat) (wd : Nat → Nat) (ht : Nat → Nat) (sta : Nat → Nat) (rps : Nat → Nat) (rln : Nat → Nat) (rzs : Nat → Nat) (wt : Bool) (a : Nat) (h1 : cs < 3 * Rz + 1) (h0 : 1 ≤ Rz) (hr : Rz ≤ 4) (hk : sta cs + co < m_most Rz) (hL : 1 ≤ L ∧ L ≤ 8) (ha : a < L) (hps : ∀ j, rps j < 2 ^ 31) :
    q_CP l (dC, dI) vwCl (tyL cI cZ cL) yPR_got wsPR_got (rmD 5) [.ref x, .int (nI a), .int (nI 3)] [(x, .inr (8, [.ref pi, .ref tr, .ref rr, .ref o, .ref br, .ref wr, .ref rd, .ref hd, .int (nI cs), .int (nI co), .int (bI wt), .int (nI lf), .int (nI lr)])), (pi, .inr (3, [.int (nI L), .int (nI Rz), .ref ab, .ref ap, .ref aw, .ref ah, .ref aq, .int (nI C)])), (ab, .inl (cI, 3 * Rz, .inl (fun j => nI (bd j)))), (ap, .inl (cI, 3 * Rz, .inl (fun j => nI (pr j)))), (aw, .inl (cI, 3 * Rz, .inl (fun j => nI (wd j)))), (ah, .inl (cI, 3 * Rz, .inl (fun j => nI (ht j)))), (aq, .inl (cI, 3 * Rz + 1, .inl (fun j => nI (sta j)))), (rr, .inr (5, [.int (nI L), .ref rap, .ref ral, .ref raz])), (rap, .inl (cI, m_most Rz * L, .inl (fun j => nI (rps j)))), (ral, .inl (cI, m_most Rz * L, .inl (fun j => nI (rln j)))), (raz, .inl (cI, m_most Rz, .inl (fun j => nI (rzs j))))] (m_gf (m_first rps (sta cs + co) L) L) := by
  refine q_entP "PacketRows" (by decide) rfl rfl rfl (Nat.le_of_ble_eq_true rfl) ?_
  intro p e s m below meth c ls Q hx hb hml hts hown hP hK hZ hl hret
  have hl : lv_has ls 5 [(0, .ref x), (1, .int (nI a)), (2, .int (nI 3))] := hl
  have hmm := m_most_le h0 hr
  have hml2 : m_most Rz * L ≤ 424 * 8 := Nat.mul_le_mul hmm.1 hL.2
  have hfl := m_first_le rps (sta cs + co) L
  refine lv_iload_n hx hb dPR_got_0 rfl (lv_at hl 1 rfl) ?_
  refine lv_iconst (v := nI 0) hx hb dPR_got_1 (by decide +kernel) ?_
  refine lv_aload_n hx hb dPR_got_2 rfl (lv_at hl 0 rfl) ?_
  refine va_get (D := (dC, dI)) (ci := 8) (v := .ref pi) (C := "PacketRows") (T := TPR) (N := 13) hx hb hts inPR hown hK hP 0 rfl rfl 0 (by decide) (hU hts u_365) (fun _ h9 => h9) rfl dPR_got_3 ?_
  refine va_get (D := (dC, dI)) (ci := 3) (v := .int (nI L)) (C := "PacketRows$Picture") (T := TPC) (N := 8) hx hb hts inPC hown hK hP 1 rfl rfl 0 (by decide) (hU hts u_112) (fun _ h9 => h9) rfl dPR_got_6 ?_
  refine lv_iconst (v := nI 1) hx hb dPR_got_9 (by decide +kernel) ?_
  refine qn_isub hx hb dPR_got_10 (by omega) ?_
  refine vp_callSi (W.runS (As := [.int (nI a), .int (nI 0), .int (nI (L - 1))]) (rest := []) ⟨hx, hb, hml, hown, hts⟩ (k_PacketRows_isWithin l dC dI cI cZ cL (nI a) (nI 0) (nI (L - 1)) ) (va_cwS 3 hts (gS u_965 u_920 u_40 u_921) rfl rfl rfl (by decide +kernel) ⟨Nat.le_of_ble_eq_true rfl, Nat.le_of_ble_eq_true rfl⟩) (q_preP hK hZ hP [] rfl) rfl rfl hl.1 rfl (lv_room (Nat.le_of_ble_eq_true rfl)) dPR_got_11 ⟨Nat.le_of_ble_eq_true rfl, Nat.le_of_ble_eq_true rfl⟩) (fun r_ er_ => ?_)
  subst er_
  refine qb_ieq (tgt := 26) hx hb dPR_got_14 (by decide) (fun c_14 => ?_) (fun c_14 => ?_)
  · exact absurd c_14 (by rw [decide_eq_true (⟨(nI_leI (by omega) (by omega)).mpr (by omega), (nI_leI (by omega) (by omega)).mpr (by omega)⟩)]; decide)
  · refine lv_iload_n hx hb dPR_got_17 rfl (lv_at hl 2 rfl) ?_
    refine lv_iconst (v := nI 0) hx hb dPR_got_18 (by decide +kernel) ?_
    refine lv_iconst (v := nI 3) hx hb dPR_got_19 (by decide +kernel) ?_
    refine vp_callSi (W.runS (As := [.int (nI 3), .int (nI 0), .int (nI 3)]) (rest := []) ⟨hx, hb, hml, hown, hts⟩ (k_PacketRows_isWithin l dC dI cI cZ cL (nI 3) (nI 0) (nI 3) ) (va_cwS 3 hts (gS u_965 u_920 u_40 u_921) rfl rfl rfl (by decide +kernel) ⟨Nat.le_of_ble_eq_true rfl, Nat.le_of_ble_eq_true rfl⟩) (q_preP hK hZ hP [] rfl) rfl rfl hl.1 rfl (lv_room (Nat.le_of_ble_eq_true rfl)) dPR_got_20 ⟨Nat.le_of_ble_eq_true rfl, Nat.le_of_ble_eq_true rfl⟩) (fun r_ er_ => ?_)
    subst er_
    refine qb_ine (tgt := 36) hx hb dPR_got_23 (by decide) (fun c_23 => ?_) (fun c_23 => ?_)
    · refine lv_aload_n hx hb dPR_got_36 rfl (lv_at hl 0 rfl) ?_
      refine vp_callSi (W.runV (As := []) (rest := []) ⟨hx, hb, hml, hown, hts⟩ (k_PacketRows_chosenBlock l dC dI cI cZ cL x pi ab ap aw ah aq tr rr o br wr rd hd L Rz C cs co lf lr bd pr wd ht sta wt h1 hr) (cwV 0 hts (gV u_987 u_989 u_12 u_40 u_990) rfl rfl rfl (by decide +kernel) ⟨Nat.le_of_ble_eq_true rfl, Nat.le_of_ble_eq_true rfl⟩) (q_prePV hK hZ hP [0, 1, 2, 3, 4, 5, 6] rfl rfl rfl) rfl rfl hl.1 rfl (lv_room (Nat.le_of_ble_eq_true rfl)) dPR_got_37 ⟨Nat.le_of_ble_eq_true rfl, Nat.le_of_ble_eq_true rfl⟩) (fun r_ er_ => ?_)
      subst er_
      refine lv_istore_n (lv' := [(3, .int (nI (sta cs + co))), (0, .ref x), (1, .int (nI a)), (2, .int (nI 3))]) hx hb dPR_got_40 rfl hl (by decide) rfl (fun ls hl => ?_)
      refine lv_iload_n hx hb dPR_got_41 rfl (lv_at hl 3 rfl) ?_
      refine lv_tableOut (x := nI 3) (tgt := 98) hx hb dPR_got_42 (Or.inr (by decide +kernel)) (by decide +kernel) ?_
      refine lv_aload_n hx hb dPR_got_98 rfl (lv_at hl 1 rfl) ?_
      refine va_get (D := (dC, dI)) (ci := 8) (v := .ref rr) (C := "PacketRows") (T := TPR) (N := 13) hx hb hts inPR hown hK hP 0 rfl rfl 2 (by decide) (hU hts u_367) (fun _ h9 => h9) rfl dPR_got_99 ?_
      refine lv_iload_n hx hb dPR_got_102 rfl (lv_at hl 0 rfl) ?_
      refine vp_callSi (W.runV (As := [.int (nI (sta cs + co))]) (rest := []) ⟨hx, hb, hml, hown, hts⟩ (k_Rows_firstOf l dC dI cI cZ cL rr rap ral raz L (m_most Rz) rps rln rzs (sta cs + co) hk (by omega) (by omega) hps) (cwV 1 hts (gV u_1053 u_803 u_804 u_43 u_805) rfl rfl rfl (by decide +kernel) ⟨Nat.le_of_ble_eq_true rfl, Nat.le_of_ble_eq_true rfl⟩) (q_prePV hK hZ hP [7, 8, 9, 10] rfl rfl rfl) rfl rfl hl.1 rfl (lv_room (Nat.le_of_ble_eq_true rfl)) dPR_got_103 ⟨Nat.le_of_ble_eq_true rfl, Nat.le_of_ble_eq_true rfl⟩) (fun r_ er_ => ?_)
      subst er_
      refine lv_istore (lv' := [(4, .int (nI (m_first rps (sta cs + co) L))), (3, .int (nI (sta cs + co))), (0, .ref x), (1, .int (nI a)), (2, .int (nI 3))]) hx hb dPR_got_106 hl (by decide) rfl (fun ls hl => ?_)
      refine lv_iload hx hb dPR_got_108 (lv_at hl 0 rfl) ?_
      refine lv_aload_n hx hb dPR_got_110 rfl (lv_at hl 2 rfl) ?_
      refine va_get (D := (dC, dI)) (ci := 8) (v := .ref pi) (C := "PacketRows") (T := TPR) (N := 13) hx hb hts inPR hown hK hP 0 rfl rfl 0 (by decide) (hU hts u_365) (fun _ h9 => h9) rfl dPR_got_111 ?_
      refine va_get (D := (dC, dI)) (ci := 3) (v := .int (nI L)) (C := "PacketRows$Picture") (T := TPC) (N := 8) hx hb hts inPC hown hK hP 1 rfl rfl 0 (by decide) (hU hts u_112) (fun _ h9 => h9) rfl dPR_got_114 ?_
      refine qn_cge (tgt := 125) hx hb dPR_got_117 (by decide) (by omega) (by omega) (fun c_117 => ?_) (fun c_117 => ?_)
      · refine lv_iconst (v := (-1)) hx hb dPR_got_125 (by decide +kernel) ?_
        exact qn_eq (by unfold m_gf; first | rw [if_pos c_117] | rw [if_neg (by omega)]) (hret _ _ dPR_got_126)
      · refine lv_iload hx hb dPR_got_120 (lv_at hl 0 rfl) ?_
        refine lv_goto (tgt := 126) hx hb dPR_got_122 (by decide) ?_
        exact qn_eq (by unfold m_gf; first | rw [if_pos c_117] | rw [if_neg (by omega)]) (hret _ _ dPR_got_126)
    · exact absurd c_23 (by rw [decide_eq_true (⟨(nI_leI (by omega) (by omega)).mpr (by omega), (nI_leI (by omega) (by omega)).mpr (by omega)⟩)]; decide)

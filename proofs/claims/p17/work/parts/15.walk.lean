set_option maxHeartbeats 4000000 in
set_option maxRecDepth 100000 in
theorem k_ByteRow_add (l : Launch) (dC : Nat → ClassId) (dI : Nat → Nat → Nat) (cI cZ cL : ClassId) (br row bz : Nat) (f : Nat → Nat) (v : Nat) (hz : bz < 2 ^ 30) :
    q_CV l (dC, dI) vwCl (tyL cI cZ cL) yBR_add wsBR_add (rmD 0) [.ref br, .int (nI v)] [(br, .inr (0, [.ref row, .int (nI bz)])), (row, .inl (cI, 6000, .inl (fun j => nI (f j))))] (fun (_ : Unit) => True) (fun (_ : Unit) => [(br, .inr (0, [.ref row, .int (nI (if bz < 6000 then bz + 1 else bz))])), (row, .inl (cI, 6000, .inl (fun j => nI ((if bz < 6000 then va_up f bz v else f) j))))]) := by
  refine q_entV "PacketRows$ByteRow" (by decide) rfl rfl (Nat.le_of_ble_eq_true rfl) ?_
  intro p e s m below meth c ls Q A hx hb hml hts hown hP hD hK hZ hO hA hS hl hret
  have hl : lv_has ls 2 [(0, .ref br), (1, .int (nI v))] := hl
  refine lv_aload_n hx hb dBR_add_0 rfl (lv_at hl 0 rfl) ?_
  refine va_get (D := (dC, dI)) (ci := 0) (v := .int (nI bz)) (C := "PacketRows$ByteRow") (T := TBR) (N := 2) hx hb hts inBR hown hK hP 0 rfl rfl 1 (by decide) (hU hts u_228) (fun _ h9 => h9) rfl dBR_add_1 ?_
  refine lv_sipush (v := nI 6000) hx hb dBR_add_4 (by decide +kernel) ?_
  refine qn_cge (tgt := 30) hx hb dBR_add_7 (by decide) (by omega) (by omega) (fun c_7 => ?_) (fun c_7 => ?_)
  · exact hret () _ _ _ _ dBR_add_30 trivial (by first | (rw [if_pos c_7, if_pos c_7]; exact hP) | (rw [if_neg (by omega), if_neg (by omega)]; exact hP)) hS
  · refine lv_aload_n hx hb dBR_add_10 rfl (lv_at hl 0 rfl) ?_
    refine va_get (D := (dC, dI)) (ci := 0) (v := .ref row) (C := "PacketRows$ByteRow") (T := TBR) (N := 2) hx hb hts inBR hown hK hP 0 rfl rfl 0 (by decide) (hU hts u_225) (fun _ h9 => h9) rfl dBR_add_11 ?_
    refine lv_aload_n hx hb dBR_add_14 rfl (lv_at hl 0 rfl) ?_
    refine va_get (D := (dC, dI)) (ci := 0) (v := .int (nI bz)) (C := "PacketRows$ByteRow") (T := TBR) (N := 2) hx hb hts inBR hown hK hP 0 rfl rfl 1 (by decide) (hU hts u_228) (fun _ h9 => h9) rfl dBR_add_15 ?_
    refine lv_iload_n hx hb dBR_add_18 rfl (lv_at hl 1 rfl) ?_
    refine qi_ast hx hb hK hP hD hS 1 0 rfl rfl (k := bz) (v := v) (by omega) (by omega) dBR_add_19 (fun H locs hP hD hS => ?_)
    have hP : va_P (dC, dI) vwCl [(br, .inr (0, [.ref row, .int (nI bz)])), (row, .inl (cI, 6000, .inl (fun j => nI ((va_up f bz v) j))))] H := hP
    have hD : va_D A [(br, .inr (0, [.ref row, .int (nI bz)])), (row, .inl (cI, 6000, .inl (fun j => nI ((va_up f bz v) j))))] := hD
    refine lv_aload_n hx hb dBR_add_20 rfl (lv_at hl 0 rfl) ?_
    refine lv_dup hx hb dBR_add_21 rfl ?_
    refine va_get (D := (dC, dI)) (ci := 0) (v := .int (nI bz)) (C := "PacketRows$ByteRow") (T := TBR) (N := 2) hx hb hts inBR hown hK hP 0 rfl rfl 1 (by decide) (hU hts u_228) (fun _ h9 => h9) rfl dBR_add_22 ?_
    refine lv_iconst (v := nI 1) hx hb dBR_add_25 (by decide +kernel) ?_
    refine qn_iadd hx hb dBR_add_26 ?_
    refine va_put (D := (dC, dI)) (ci := 0) (v := .int (nI (bz + 1))) (ty := .int) (C := "PacketRows$ByteRow") (T := TBR) (N := 2) hx hb hts inBR tyBR tyBR_ok nmBR hown hK hP hD hS 0 rfl rfl 1 (by decide) (hU hts u_228) (fun _ h9 => h9) rfl (by decide +kernel) rfl rfl (Nat.le_of_ble_eq_true rfl) dBR_add_27 (fun H locs hP hD hS => ?_)
    have hP : va_P (dC, dI) vwCl [(br, .inr (0, [.ref row, .int (nI (bz + 1))])), (row, .inl (cI, 6000, .inl (fun j => nI ((va_up f bz v) j))))] H := hP
    have hD : va_D A [(br, .inr (0, [.ref row, .int (nI (bz + 1))])), (row, .inl (cI, 6000, .inl (fun j => nI ((va_up f bz v) j))))] := hD
    exact hret () _ _ _ _ dBR_add_30 trivial (by first | (rw [if_pos c_7, if_pos c_7]; exact hP) | (rw [if_neg (by omega), if_neg (by omega)]; exact hP)) hS
set_option maxHeartbeats 4000000 in
set_option maxRecDepth 100000 in
theorem k_Order_placeOf (l : Launch) (dC : Nat → ClassId) (dI : Nat → Nat → Nat) (cI cZ cL : ClassId) (o pi po pe pl li en ax pts pk np : Nat) (fo fe fp fn fa : Nat → Nat) (fl : Nat → Bool) (k y : Nat) (h1 : k * 4 + y < np * 4) (h2 : np < 2 ^ 20) :
    q_CP l (dC, dI) vwCl (tyL cI cZ cL) yOD_placeOf wsOD_placeOf (rmD 0) [.ref o, .int (nI k), .int (nI y)] [(o, .inr (2, [.ref pi, .ref po, .ref pe, .ref pl, .ref li, .ref en, .ref ax, .int (nI pts), .int (nI pk)])), (po, .inl (cI, 6, .inl (fun j => nI (fo j)))), (pe, .inl (cI, 18, .inl (fun j => nI (fe j)))), (pl, .inl (cI, np * 4, .inl (fun j => nI (fp j)))), (li, .inl (cZ, np, .inl (fun j => bI (fl j)))), (en, .inl (cI, 4, .inl (fun j => nI (fn j)))), (ax, .inl (cI, 4, .inl (fun j => nI (fa j))))] (nI (fp (k * 4 + y))) := by
  refine q_entP "PacketRows$Order" (by decide) rfl rfl rfl (Nat.le_of_ble_eq_true rfl) ?_
  intro p e s m below meth c ls Q hx hb hml hts hown hP hK hZ hl hret
  have hl : lv_has ls 3 [(0, .ref o), (1, .int (nI k)), (2, .int (nI y))] := hl
  refine lv_aload_n hx hb dOD_placeOf_0 rfl (lv_at hl 0 rfl) ?_
  refine va_get (D := (dC, dI)) (ci := 2) (v := .ref pl) (C := "PacketRows$Order") (T := TOD) (N := 9) hx hb hts inOD hown hK hP 0 rfl rfl 3 (by decide) (hU hts u_190) (fun _ h9 => h9) rfl dOD_placeOf_1 ?_
  refine lv_iload_n hx hb dOD_placeOf_4 rfl (lv_at hl 1 rfl) ?_
  refine lv_iconst (v := nI 4) hx hb dOD_placeOf_5 (by decide +kernel) ?_
  refine qn_imul hx hb dOD_placeOf_6 ?_
  refine lv_iload_n hx hb dOD_placeOf_7 rfl (lv_at hl 2 rfl) ?_
  refine qn_iadd hx hb dOD_placeOf_8 ?_
  refine qi_ald hx hb hK hP 3 0 rfl rfl (k := k * 4 + y) (by omega) (by omega) dOD_placeOf_9 ?_
  exact hret _ _ dOD_placeOf_10
set_option maxHeartbeats 4000000 in
set_option maxRecDepth 100000 in
theorem k_Order_addPart (l : Launch) (dC : Nat → ClassId) (dI : Nat → Nat → Nat) (cI cZ cL : ClassId) (o pi po pe pl li en ax pts pk np : Nat) (fo fe fp fn fa : Nat → Nat) (fl : Nat → Bool) (a y z k : Nat) (h1 : pts < 6) :
    q_CV l (dC, dI) vwCl (tyL cI cZ cL) yOD_addPart wsOD_addPart (rmD 0) [.ref o, .int (nI a), .int (nI y), .int (nI z), .int (nI k)] [(o, .inr (2, [.ref pi, .ref po, .ref pe, .ref pl, .ref li, .ref en, .ref ax, .int (nI pts), .int (nI pk)])), (po, .inl (cI, 6, .inl (fun j => nI (fo j)))), (pe, .inl (cI, 18, .inl (fun j => nI (fe j)))), (pl, .inl (cI, np * 4, .inl (fun j => nI (fp j)))), (li, .inl (cZ, np, .inl (fun j => bI (fl j)))), (en, .inl (cI, 4, .inl (fun j => nI (fn j)))), (ax, .inl (cI, 4, .inl (fun j => nI (fa j))))] (fun (_ : Unit) => True) (fun (_ : Unit) => [(o, .inr (2, [.ref pi, .ref po, .ref pe, .ref pl, .ref li, .ref en, .ref ax, .int (nI (pts + 1)), .int (nI pk)])), (po, .inl (cI, 6, .inl (fun j => nI ((va_up fo pts a) j)))), (pe, .inl (cI, 18, .inl (fun j => nI ((va_up (va_up (va_up fe (pts * 3) y) (pts * 3 + 1) z) (pts * 3 + 2) k) j)))), (pl, .inl (cI, np * 4, .inl (fun j => nI (fp j)))), (li, .inl (cZ, np, .inl (fun j => bI (fl j)))), (en, .inl (cI, 4, .inl (fun j => nI (fn j)))), (ax, .inl (cI, 4, .inl (fun j => nI (fa j))))]) := by
  refine q_entV "PacketRows$Order" (by decide) rfl rfl (Nat.le_of_ble_eq_true rfl) ?_
  intro p e s m below meth c ls Q A hx hb hml hts hown hP hD hK hZ hO hA hS hl hret
  have hl : lv_has ls 5 [(0, .ref o), (1, .int (nI a)), (2, .int (nI y)), (3, .int (nI z)), (4, .int (nI k))] := hl
  refine lv_aload_n hx hb dOD_addPart_0 rfl (lv_at hl 0 rfl) ?_
  refine va_get (D := (dC, dI)) (ci := 2) (v := .ref po) (C := "PacketRows$Order") (T := TOD) (N := 9) hx hb hts inOD hown hK hP 0 rfl rfl 1 (by decide) (hU hts u_188) (fun _ h9 => h9) rfl dOD_addPart_1 ?_
  refine lv_aload_n hx hb dOD_addPart_4 rfl (lv_at hl 0 rfl) ?_
  refine va_get (D := (dC, dI)) (ci := 2) (v := .int (nI pts)) (C := "PacketRows$Order") (T := TOD) (N := 9) hx hb hts inOD hown hK hP 0 rfl rfl 7 (by decide) (hU hts u_194) (fun _ h9 => h9) rfl dOD_addPart_5 ?_
  refine lv_iload_n hx hb dOD_addPart_8 rfl (lv_at hl 1 rfl) ?_
  refine qi_ast hx hb hK hP hD hS 1 0 rfl rfl (k := pts) (v := a) (by omega) (by omega) dOD_addPart_9 (fun H locs hP hD hS => ?_)
  have hP : va_P (dC, dI) vwCl [(o, .inr (2, [.ref pi, .ref po, .ref pe, .ref pl, .ref li, .ref en, .ref ax, .int (nI pts), .int (nI pk)])), (po, .inl (cI, 6, .inl (fun j => nI ((va_up fo pts a) j)))), (pe, .inl (cI, 18, .inl (fun j => nI (fe j)))), (pl, .inl (cI, np * 4, .inl (fun j => nI (fp j)))), (li, .inl (cZ, np, .inl (fun j => bI (fl j)))), (en, .inl (cI, 4, .inl (fun j => nI (fn j)))), (ax, .inl (cI, 4, .inl (fun j => nI (fa j))))] H := hP
  have hD : va_D A [(o, .inr (2, [.ref pi, .ref po, .ref pe, .ref pl, .ref li, .ref en, .ref ax, .int (nI pts), .int (nI pk)])), (po, .inl (cI, 6, .inl (fun j => nI ((va_up fo pts a) j)))), (pe, .inl (cI, 18, .inl (fun j => nI (fe j)))), (pl, .inl (cI, np * 4, .inl (fun j => nI (fp j)))), (li, .inl (cZ, np, .inl (fun j => bI (fl j)))), (en, .inl (cI, 4, .inl (fun j => nI (fn j)))), (ax, .inl (cI, 4, .inl (fun j => nI (fa j))))] := hD
  refine lv_aload_n hx hb dOD_addPart_10 rfl (lv_at hl 0 rfl) ?_
  refine va_get (D := (dC, dI)) (ci := 2) (v := .ref pe) (C := "PacketRows$Order") (T := TOD) (N := 9) hx hb hts inOD hown hK hP 0 rfl rfl 2 (by decide) (hU hts u_189) (fun _ h9 => h9) rfl dOD_addPart_11 ?_
  refine lv_aload_n hx hb dOD_addPart_14 rfl (lv_at hl 0 rfl) ?_
  refine va_get (D := (dC, dI)) (ci := 2) (v := .int (nI pts)) (C := "PacketRows$Order") (T := TOD) (N := 9) hx hb hts inOD hown hK hP 0 rfl rfl 7 (by decide) (hU hts u_194) (fun _ h9 => h9) rfl dOD_addPart_15 ?_
  refine lv_iconst (v := nI 3) hx hb dOD_addPart_18 (by decide +kernel) ?_
  refine qn_imul hx hb dOD_addPart_19 ?_
  refine lv_iconst (v := nI 0) hx hb dOD_addPart_20 (by decide +kernel) ?_
  refine qn_iadd hx hb dOD_addPart_21 ?_
  refine lv_iload_n hx hb dOD_addPart_22 rfl (lv_at hl 2 rfl) ?_
  refine qi_ast hx hb hK hP hD hS 2 0 rfl rfl (k := pts * 3 + 0) (v := y) (by omega) (by omega) dOD_addPart_23 (fun H locs hP hD hS => ?_)
  have hP : va_P (dC, dI) vwCl [(o, .inr (2, [.ref pi, .ref po, .ref pe, .ref pl, .ref li, .ref en, .ref ax, .int (nI pts), .int (nI pk)])), (po, .inl (cI, 6, .inl (fun j => nI ((va_up fo pts a) j)))), (pe, .inl (cI, 18, .inl (fun j => nI ((va_up fe (pts * 3 + 0) y) j)))), (pl, .inl (cI, np * 4, .inl (fun j => nI (fp j)))), (li, .inl (cZ, np, .inl (fun j => bI (fl j)))), (en, .inl (cI, 4, .inl (fun j => nI (fn j)))), (ax, .inl (cI, 4, .inl (fun j => nI (fa j))))] H := hP
  have hD : va_D A [(o, .inr (2, [.ref pi, .ref po, .ref pe, .ref pl, .ref li, .ref en, .ref ax, .int (nI pts), .int (nI pk)])), (po, .inl (cI, 6, .inl (fun j => nI ((va_up fo pts a) j)))), (pe, .inl (cI, 18, .inl (fun j => nI ((va_up fe (pts * 3 + 0) y) j)))), (pl, .inl (cI, np * 4, .inl (fun j => nI (fp j)))), (li, .inl (cZ, np, .inl (fun j => bI (fl j)))), (en, .inl (cI, 4, .inl (fun j => nI (fn j)))), (ax, .inl (cI, 4, .inl (fun j => nI (fa j))))] := hD
  refine lv_aload_n hx hb dOD_addPart_24 rfl (lv_at hl 0 rfl) ?_
  refine va_get (D := (dC, dI)) (ci := 2) (v := .ref pe) (C := "PacketRows$Order") (T := TOD) (N := 9) hx hb hts inOD hown hK hP 0 rfl rfl 2 (by decide) (hU hts u_189) (fun _ h9 => h9) rfl dOD_addPart_25 ?_
  refine lv_aload_n hx hb dOD_addPart_28 rfl (lv_at hl 0 rfl) ?_
  refine va_get (D := (dC, dI)) (ci := 2) (v := .int (nI pts)) (C := "PacketRows$Order") (T := TOD) (N := 9) hx hb hts inOD hown hK hP 0 rfl rfl 7 (by decide) (hU hts u_194) (fun _ h9 => h9) rfl dOD_addPart_29 ?_
  refine lv_iconst (v := nI 3) hx hb dOD_addPart_32 (by decide +kernel) ?_
  refine qn_imul hx hb dOD_addPart_33 ?_
  refine lv_iconst (v := nI 1) hx hb dOD_addPart_34 (by decide +kernel) ?_
  refine qn_iadd hx hb dOD_addPart_35 ?_
  refine lv_iload_n hx hb dOD_addPart_36 rfl (lv_at hl 3 rfl) ?_
  refine qi_ast hx hb hK hP hD hS 2 0 rfl rfl (k := pts * 3 + 1) (v := z) (by omega) (by omega) dOD_addPart_37 (fun H locs hP hD hS => ?_)
  have hP : va_P (dC, dI) vwCl [(o, .inr (2, [.ref pi, .ref po, .ref pe, .ref pl, .ref li, .ref en, .ref ax, .int (nI pts), .int (nI pk)])), (po, .inl (cI, 6, .inl (fun j => nI ((va_up fo pts a) j)))), (pe, .inl (cI, 18, .inl (fun j => nI ((va_up (va_up fe (pts * 3 + 0) y) (pts * 3 + 1) z) j)))), (pl, .inl (cI, np * 4, .inl (fun j => nI (fp j)))), (li, .inl (cZ, np, .inl (fun j => bI (fl j)))), (en, .inl (cI, 4, .inl (fun j => nI (fn j)))), (ax, .inl (cI, 4, .inl (fun j => nI (fa j))))] H := hP
  have hD : va_D A [(o, .inr (2, [.ref pi, .ref po, .ref pe, .ref pl, .ref li, .ref en, .ref ax, .int (nI pts), .int (nI pk)])), (po, .inl (cI, 6, .inl (fun j => nI ((va_up fo pts a) j)))), (pe, .inl (cI, 18, .inl (fun j => nI ((va_up (va_up fe (pts * 3 + 0) y) (pts * 3 + 1) z) j)))), (pl, .inl (cI, np * 4, .inl (fun j => nI (fp j)))), (li, .inl (cZ, np, .inl (fun j => bI (fl j)))), (en, .inl (cI, 4, .inl (fun j => nI (fn j)))), (ax, .inl (cI, 4, .inl (fun j => nI (fa j))))] := hD
  refine lv_aload_n hx hb dOD_addPart_38 rfl (lv_at hl 0 rfl) ?_
  refine va_get (D := (dC, dI)) (ci := 2) (v := .ref pe) (C := "PacketRows$Order") (T := TOD) (N := 9) hx hb hts inOD hown hK hP 0 rfl rfl 2 (by decide) (hU hts u_189) (fun _ h9 => h9) rfl dOD_addPart_39 ?_
  refine lv_aload_n hx hb dOD_addPart_42 rfl (lv_at hl 0 rfl) ?_
  refine va_get (D := (dC, dI)) (ci := 2) (v := .int (nI pts)) (C := "PacketRows$Order") (T := TOD) (N := 9) hx hb hts inOD hown hK hP 0 rfl rfl 7 (by decide) (hU hts u_194) (fun _ h9 => h9) rfl dOD_addPart_43 ?_
  refine lv_iconst (v := nI 3) hx hb dOD_addPart_46 (by decide +kernel) ?_
  refine qn_imul hx hb dOD_addPart_47 ?_
  refine lv_iconst (v := nI 2) hx hb dOD_addPart_48 (by decide +kernel) ?_
  refine qn_iadd hx hb dOD_addPart_49 ?_
  refine lv_iload hx hb dOD_addPart_50 (lv_at hl 4 rfl) ?_
  refine qi_ast hx hb hK hP hD hS 2 0 rfl rfl (k := pts * 3 + 2) (v := k) (by omega) (by omega) dOD_addPart_52 (fun H locs hP hD hS => ?_)
  have hP : va_P (dC, dI) vwCl [(o, .inr (2, [.ref pi, .ref po, .ref pe, .ref pl, .ref li, .ref en, .ref ax, .int (nI pts), .int (nI pk)])), (po, .inl (cI, 6, .inl (fun j => nI ((va_up fo pts a) j)))), (pe, .inl (cI, 18, .inl (fun j => nI ((va_up (va_up (va_up fe (pts * 3 + 0) y) (pts * 3 + 1) z) (pts * 3 + 2) k) j)))), (pl, .inl (cI, np * 4, .inl (fun j => nI (fp j)))), (li, .inl (cZ, np, .inl (fun j => bI (fl j)))), (en, .inl (cI, 4, .inl (fun j => nI (fn j)))), (ax, .inl (cI, 4, .inl (fun j => nI (fa j))))] H := hP
  have hD : va_D A [(o, .inr (2, [.ref pi, .ref po, .ref pe, .ref pl, .ref li, .ref en, .ref ax, .int (nI pts), .int (nI pk)])), (po, .inl (cI, 6, .inl (fun j => nI ((va_up fo pts a) j)))), (pe, .inl (cI, 18, .inl (fun j => nI ((va_up (va_up (va_up fe (pts * 3 + 0) y) (pts * 3 + 1) z) (pts * 3 + 2) k) j)))), (pl, .inl (cI, np * 4, .inl (fun j => nI (fp j)))), (li, .inl (cZ, np, .inl (fun j => bI (fl j)))), (en, .inl (cI, 4, .inl (fun j => nI (fn j)))), (ax, .inl (cI, 4, .inl (fun j => nI (fa j))))] := hD
  refine lv_aload_n hx hb dOD_addPart_53 rfl (lv_at hl 0 rfl) ?_
  refine lv_dup hx hb dOD_addPart_54 rfl ?_
  refine va_get (D := (dC, dI)) (ci := 2) (v := .int (nI pts)) (C := "PacketRows$Order") (T := TOD) (N := 9) hx hb hts inOD hown hK hP 0 rfl rfl 7 (by decide) (hU hts u_194) (fun _ h9 => h9) rfl dOD_addPart_55 ?_
  refine lv_iconst (v := nI 1) hx hb dOD_addPart_58 (by decide +kernel) ?_
  refine qn_iadd hx hb dOD_addPart_59 ?_
  refine va_put (D := (dC, dI)) (ci := 2) (v := .int (nI (pts + 1))) (ty := .int) (C := "PacketRows$Order") (T := TOD) (N := 9) hx hb hts inOD tyOD tyOD_ok nmOD hown hK hP hD hS 0 rfl rfl 7 (by decide) (hU hts u_194) (fun _ h9 => h9) rfl (by decide +kernel) rfl rfl (Nat.le_of_ble_eq_true rfl) dOD_addPart_60 (fun H locs hP hD hS => ?_)
  have hP : va_P (dC, dI) vwCl [(o, .inr (2, [.ref pi, .ref po, .ref pe, .ref pl, .ref li, .ref en, .ref ax, .int (nI (pts + 1)), .int (nI pk)])), (po, .inl (cI, 6, .inl (fun j => nI ((va_up fo pts a) j)))), (pe, .inl (cI, 18, .inl (fun j => nI ((va_up (va_up (va_up fe (pts * 3 + 0) y) (pts * 3 + 1) z) (pts * 3 + 2) k) j)))), (pl, .inl (cI, np * 4, .inl (fun j => nI (fp j)))), (li, .inl (cZ, np, .inl (fun j => bI (fl j)))), (en, .inl (cI, 4, .inl (fun j => nI (fn j)))), (ax, .inl (cI, 4, .inl (fun j => nI (fa j))))] H := hP
  have hD : va_D A [(o, .inr (2, [.ref pi, .ref po, .ref pe, .ref pl, .ref li, .ref en, .ref ax, .int (nI (pts + 1)), .int (nI pk)])), (po, .inl (cI, 6, .inl (fun j => nI ((va_up fo pts a) j)))), (pe, .inl (cI, 18, .inl (fun j => nI ((va_up (va_up (va_up fe (pts * 3 + 0) y) (pts * 3 + 1) z) (pts * 3 + 2) k) j)))), (pl, .inl (cI, np * 4, .inl (fun j => nI (fp j)))), (li, .inl (cZ, np, .inl (fun j => bI (fl j)))), (en, .inl (cI, 4, .inl (fun j => nI (fn j)))), (ax, .inl (cI, 4, .inl (fun j => nI (fa j))))] := hD
  exact hret () _ _ _ _ dOD_addPart_63 trivial hP hS

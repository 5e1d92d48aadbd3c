set_option maxHeartbeats 4000000 in
set_option maxRecDepth 100000 in
theorem k_Picture_slots (l : Launch) (dC : Nat → ClassId) (dI : Nat → Nat → Nat) (cI cZ cL : ClassId) (pi ab ap aw ah aq L Rz C ns : Nat) (bd pr wd ht sta : Nat → Nat)  :
    q_CP l (dC, dI) vwCl (tyL cI cZ cL) yPC_slots wsPC_slots (rmD 0) [.ref pi] [(pi, .inr (3, [.int (nI L), .int (nI Rz), .ref ab, .ref ap, .ref aw, .ref ah, .ref aq, .int (nI C)])), (ab, .inl (cI, ns, .inl (fun j => nI (bd j)))), (ap, .inl (cI, ns, .inl (fun j => nI (pr j)))), (aw, .inl (cI, ns, .inl (fun j => nI (wd j)))), (ah, .inl (cI, ns, .inl (fun j => nI (ht j)))), (aq, .inl (cI, ns + 1, .inl (fun j => nI (sta j))))] (nI (C * Rz)) := by
  refine q_entP "PacketRows$Picture" (by decide) rfl rfl rfl (Nat.le_of_ble_eq_true rfl) ?_
  intro p e s m below meth c ls Q hx hb hml hts hown hP hK hZ hl hret
  have hl : lv_has ls 1 [(0, .ref pi)] := hl
  refine lv_aload_n hx hb dPC_slots_0 rfl (lv_at hl 0 rfl) ?_
  refine va_get (D := (dC, dI)) (ci := 3) (v := .int (nI C)) (C := "PacketRows$Picture") (T := TPC) (N := 8) hx hb hts inPC hown hK hP 0 rfl rfl 7 (by decide) (hU hts u_131) (fun _ h9 => h9) rfl dPC_slots_1 ?_
  refine lv_aload_n hx hb dPC_slots_4 rfl (lv_at hl 0 rfl) ?_
  refine va_get (D := (dC, dI)) (ci := 3) (v := .int (nI Rz)) (C := "PacketRows$Picture") (T := TPC) (N := 8) hx hb hts inPC hown hK hP 0 rfl rfl 1 (by decide) (hU hts u_114) (fun _ h9 => h9) rfl dPC_slots_5 ?_
  refine qn_imul hx hb dPC_slots_8 ?_
  exact hret _ _ dPC_slots_9
set_option maxHeartbeats 4000000 in
set_option maxRecDepth 100000 in
theorem k_Picture_blocks (l : Launch) (dC : Nat → ClassId) (dI : Nat → Nat → Nat) (cI cZ cL : ClassId) (pi ab ap aw ah aq L Rz C ns : Nat) (bd pr wd ht sta : Nat → Nat) (hs : C * Rz ≤ ns) (hn : ns < 2 ^ 30) :
    q_CP l (dC, dI) vwCl (tyL cI cZ cL) yPC_blocks wsPC_blocks (rmD 1) [.ref pi] [(pi, .inr (3, [.int (nI L), .int (nI Rz), .ref ab, .ref ap, .ref aw, .ref ah, .ref aq, .int (nI C)])), (ab, .inl (cI, ns, .inl (fun j => nI (bd j)))), (ap, .inl (cI, ns, .inl (fun j => nI (pr j)))), (aw, .inl (cI, ns, .inl (fun j => nI (wd j)))), (ah, .inl (cI, ns, .inl (fun j => nI (ht j)))), (aq, .inl (cI, ns + 1, .inl (fun j => nI (sta j))))] (nI (sta (C * Rz))) := by
  refine q_entP "PacketRows$Picture" (by decide) rfl rfl rfl (Nat.le_of_ble_eq_true rfl) ?_
  intro p e s m below meth c ls Q hx hb hml hts hown hP hK hZ hl hret
  have hl : lv_has ls 1 [(0, .ref pi)] := hl
  refine lv_aload_n hx hb dPC_blocks_0 rfl (lv_at hl 0 rfl) ?_
  refine va_get (D := (dC, dI)) (ci := 3) (v := .ref aq) (C := "PacketRows$Picture") (T := TPC) (N := 8) hx hb hts inPC hown hK hP 0 rfl rfl 6 (by decide) (hU hts u_127) (fun _ h9 => h9) rfl dPC_blocks_1 ?_
  refine lv_aload_n hx hb dPC_blocks_4 rfl (lv_at hl 0 rfl) ?_
  refine vp_callSi (W.runV (As := []) (rest := [.ref aq]) ⟨hx, hb, hml, hown, hts⟩ (k_Picture_slots l dC dI cI cZ cL pi ab ap aw ah aq L Rz C ns bd pr wd ht sta ) (cwV 0 hts (gV u_95 u_96 u_97 u_41 u_98) rfl rfl rfl (by decide +kernel) ⟨Nat.le_of_ble_eq_true rfl, Nat.le_of_ble_eq_true rfl⟩) (q_prePV hK hZ hP [0, 1, 2, 3, 4, 5] rfl rfl rfl) rfl rfl hl.1 rfl (lv_room (Nat.le_of_ble_eq_true rfl)) dPC_blocks_5 ⟨Nat.le_of_ble_eq_true rfl, Nat.le_of_ble_eq_true rfl⟩) (fun r_ er_ => ?_)
  subst er_
  refine qi_ald hx hb hK hP 5 0 rfl rfl (k := C * Rz) (by omega) (by omega) dPC_blocks_8 ?_
  exact hret _ _ dPC_blocks_9
set_option maxHeartbeats 4000000 in
set_option maxRecDepth 100000 in
theorem k_Picture_bandSize (l : Launch) (dC : Nat → ClassId) (dI : Nat → Nat → Nat) (cI cZ cL : ClassId) (pi ab ap aw ah aq L Rz C ns : Nat) (bd pr wd ht sta : Nat → Nat) (k : Nat) (hk : k < ns) (hn : ns < 2 ^ 30) :
    q_CP l (dC, dI) vwCl (tyL cI cZ cL) yPC_bandSize wsPC_bandSize (rmD 0) [.ref pi, .int (nI k)] [(pi, .inr (3, [.int (nI L), .int (nI Rz), .ref ab, .ref ap, .ref aw, .ref ah, .ref aq, .int (nI C)])), (ab, .inl (cI, ns, .inl (fun j => nI (bd j)))), (ap, .inl (cI, ns, .inl (fun j => nI (pr j)))), (aw, .inl (cI, ns, .inl (fun j => nI (wd j)))), (ah, .inl (cI, ns, .inl (fun j => nI (ht j)))), (aq, .inl (cI, ns + 1, .inl (fun j => nI (sta j))))] (nI (wd k * ht k)) := by
  refine q_entP "PacketRows$Picture" (by decide) rfl rfl rfl (Nat.le_of_ble_eq_true rfl) ?_
  intro p e s m below meth c ls Q hx hb hml hts hown hP hK hZ hl hret
  have hl : lv_has ls 2 [(0, .ref pi), (1, .int (nI k))] := hl
  refine lv_aload_n hx hb dPC_bandSize_0 rfl (lv_at hl 0 rfl) ?_
  refine va_get (D := (dC, dI)) (ci := 3) (v := .ref aw) (C := "PacketRows$Picture") (T := TPC) (N := 8) hx hb hts inPC hown hK hP 0 rfl rfl 4 (by decide) (hU hts u_123) (fun _ h9 => h9) rfl dPC_bandSize_1 ?_
  refine lv_iload_n hx hb dPC_bandSize_4 rfl (lv_at hl 1 rfl) ?_
  refine qi_ald hx hb hK hP 3 0 rfl rfl (k := k) (by omega) (by omega) dPC_bandSize_5 ?_
  refine lv_aload_n hx hb dPC_bandSize_6 rfl (lv_at hl 0 rfl) ?_
  refine va_get (D := (dC, dI)) (ci := 3) (v := .ref ah) (C := "PacketRows$Picture") (T := TPC) (N := 8) hx hb hts inPC hown hK hP 0 rfl rfl 5 (by decide) (hU hts u_125) (fun _ h9 => h9) rfl dPC_bandSize_7 ?_
  refine lv_iload_n hx hb dPC_bandSize_10 rfl (lv_at hl 1 rfl) ?_
  refine qi_ald hx hb hK hP 4 0 rfl rfl (k := k) (by omega) (by omega) dPC_bandSize_11 ?_
  refine qn_imul hx hb dPC_bandSize_12 ?_
  exact qn_eq rfl (hret _ _ dPC_bandSize_13)
set_option maxHeartbeats 4000000 in
set_option maxRecDepth 100000 in
theorem k_Picture_slotSize (l : Launch) (dC : Nat → ClassId) (dI : Nat → Nat → Nat) (cI cZ cL : ClassId) (pi ab ap aw ah aq L Rz C ns : Nat) (bd pr wd ht sta : Nat → Nat) (k : Nat) (hk : k < ns) (hn : ns < 2 ^ 30) :
    q_CP l (dC, dI) vwCl (tyL cI cZ cL) yPC_slotSize wsPC_slotSize (rmD 1) [.ref pi, .int (nI k)] [(pi, .inr (3, [.int (nI L), .int (nI Rz), .ref ab, .ref ap, .ref aw, .ref ah, .ref aq, .int (nI C)])), (ab, .inl (cI, ns, .inl (fun j => nI (bd j)))), (ap, .inl (cI, ns, .inl (fun j => nI (pr j)))), (aw, .inl (cI, ns, .inl (fun j => nI (wd j)))), (ah, .inl (cI, ns, .inl (fun j => nI (ht j)))), (aq, .inl (cI, ns + 1, .inl (fun j => nI (sta j))))] (nI (pr k * bd k * (wd k * ht k))) := by
  refine q_entP "PacketRows$Picture" (by decide) rfl rfl rfl (Nat.le_of_ble_eq_true rfl) ?_
  intro p e s m below meth c ls Q hx hb hml hts hown hP hK hZ hl hret
  have hl : lv_has ls 2 [(0, .ref pi), (1, .int (nI k))] := hl
  refine lv_aload_n hx hb dPC_slotSize_0 rfl (lv_at hl 0 rfl) ?_
  refine va_get (D := (dC, dI)) (ci := 3) (v := .ref ap) (C := "PacketRows$Picture") (T := TPC) (N := 8) hx hb hts inPC hown hK hP 0 rfl rfl 3 (by decide) (hU hts u_120) (fun _ h9 => h9) rfl dPC_slotSize_1 ?_
  refine lv_iload_n hx hb dPC_slotSize_4 rfl (lv_at hl 1 rfl) ?_
  refine qi_ald hx hb hK hP 2 0 rfl rfl (k := k) (by omega) (by omega) dPC_slotSize_5 ?_
  refine lv_aload_n hx hb dPC_slotSize_6 rfl (lv_at hl 0 rfl) ?_
  refine va_get (D := (dC, dI)) (ci := 3) (v := .ref ab) (C := "PacketRows$Picture") (T := TPC) (N := 8) hx hb hts inPC hown hK hP 0 rfl rfl 2 (by decide) (hU hts u_117) (fun _ h9 => h9) rfl dPC_slotSize_7 ?_
  refine lv_iload_n hx hb dPC_slotSize_10 rfl (lv_at hl 1 rfl) ?_
  refine qi_ald hx hb hK hP 1 0 rfl rfl (k := k) (by omega) (by omega) dPC_slotSize_11 ?_
  refine qn_imul hx hb dPC_slotSize_12 ?_
  refine lv_aload_n hx hb dPC_slotSize_13 rfl (lv_at hl 0 rfl) ?_
  refine lv_iload_n hx hb dPC_slotSize_14 rfl (lv_at hl 1 rfl) ?_
  refine vp_callSi (W.runV (As := [.int (nI k)]) (rest := [.int (nI ((pr k) * (bd k)))]) ⟨hx, hb, hml, hown, hts⟩ (k_Picture_bandSize l dC dI cI cZ cL pi ab ap aw ah aq L Rz C ns bd pr wd ht sta k (by omega) (by omega)) (cwV 1 hts (gV u_107 u_108 u_109 u_41 u_110) rfl rfl rfl (by decide +kernel) ⟨Nat.le_of_ble_eq_true rfl, Nat.le_of_ble_eq_true rfl⟩) (q_prePV hK hZ hP [0, 1, 2, 3, 4, 5] rfl rfl rfl) rfl rfl hl.1 rfl (lv_room (Nat.le_of_ble_eq_true rfl)) dPC_slotSize_15 ⟨Nat.le_of_ble_eq_true rfl, Nat.le_of_ble_eq_true rfl⟩) (fun r_ er_ => ?_)
  subst er_
  refine qn_imul hx hb dPC_slotSize_18 ?_
  exact qn_eq rfl (hret _ _ dPC_slotSize_19)
set_option maxHeartbeats 4000000 in
set_option maxRecDepth 100000 in
theorem k_Picture_numberBlocks (l : Launch) (dC : Nat → ClassId) (dI : Nat → Nat → Nat) (cI cZ cL : ClassId) (pi ab ap aw ah aq L Rz C ns : Nat) (bd pr wd ht sta : Nat → Nat) (hs : C * Rz ≤ ns) (hn : ns < 2 ^ 30) (hz : sta 0 = 0) :
    q_CV l (dC, dI) vwCl (tyL cI cZ cL) yPC_numberBlocks wsPC_numberBlocks (rmD 2) [.ref pi] [(pi, .inr (3, [.int (nI L), .int (nI Rz), .ref ab, .ref ap, .ref aw, .ref ah, .ref aq, .int (nI C)])), (ab, .inl (cI, ns, .inl (fun j => nI (bd j)))), (ap, .inl (cI, ns, .inl (fun j => nI (pr j)))), (aw, .inl (cI, ns, .inl (fun j => nI (wd j)))), (ah, .inl (cI, ns, .inl (fun j => nI (ht j)))), (aq, .inl (cI, ns + 1, .inl (fun j => nI (sta j))))] (fun (_ : Unit) => True) (fun (_ : Unit) => [(pi, .inr (3, [.int (nI L), .int (nI Rz), .ref ab, .ref ap, .ref aw, .ref ah, .ref aq, .int (nI C)])), (ab, .inl (cI, ns, .inl (fun j => nI (bd j)))), (ap, .inl (cI, ns, .inl (fun j => nI (pr j)))), (aw, .inl (cI, ns, .inl (fun j => nI (wd j)))), (ah, .inl (cI, ns, .inl (fun j => nI (ht j)))), (aq, .inl (cI, ns + 1, .inl (fun j => nI ((m_starts pr bd wd ht sta (C * Rz)) j))))]) := by
  refine q_entV "PacketRows$Picture" (by decide) rfl rfl (Nat.le_of_ble_eq_true rfl) ?_
  intro p e s m below meth c ls Q A hx hb hml hts hown hP hD hK hZ hO hA hS hl hret
  have hl : lv_has ls 2 [(0, .ref pi)] := hl
  refine lv_iconst (v := nI 0) hx hb dPC_numberBlocks_0 (by decide +kernel) ?_
  refine lv_istore_n (lv' := [(1, .int (nI 0)), (0, .ref pi)]) hx hb dPC_numberBlocks_1 rfl hl (by decide) rfl (fun ls hl => ?_)
  have lp_2 : ∀ (fu : Nat) (i : Nat) (H : Heap) (locs : List Loc) (ls : Array Slot), C * Rz - i < fu → (i ≤ C * Rz) → va_P (dC, dI) vwCl [(pi, .inr (3, [.int (nI L), .int (nI Rz), .ref ab, .ref ap, .ref aw, .ref ah, .ref aq, .int (nI C)])), (ab, .inl (cI, ns, .inl (fun j => nI (bd j)))), (ap, .inl (cI, ns, .inl (fun j => nI (pr j)))), (aw, .inl (cI, ns, .inl (fun j => nI (wd j)))), (ah, .inl (cI, ns, .inl (fun j => nI (ht j)))), (aq, .inl (cI, ns + 1, .inl (fun j => nI ((m_starts pr bd wd ht sta i) j))))] H → va_D A [(pi, .inr (3, [.int (nI L), .int (nI Rz), .ref ab, .ref ap, .ref aw, .ref ah, .ref aq, .int (nI C)])), (ab, .inl (cI, ns, .inl (fun j => nI (bd j)))), (ap, .inl (cI, ns, .inl (fun j => nI (pr j)))), (aw, .inl (cI, ns, .inl (fun j => nI (wd j)))), (ah, .inl (cI, ns, .inl (fun j => nI (ht j)))), (aq, .inl (cI, ns + 1, .inl (fun j => nI ((m_starts pr bd wd ht sta i) j))))] → va_S A s.heap H locs → lv_has ls 2 [(1, .int (nI i)), (0, .ref pi)] → W p l e (headSpec wsPC_numberBlocks (rmD 2)).room s m [.ref pi].toArray below meth c H locs 0 0 Q (F0 m 2 ls []) := by
    intro fu
    induction fu with
    | zero => intro i H locs ls hmeas; exact absurd hmeas (Nat.not_lt_zero _)
    | succ fu ih_2 =>
      intro i H locs ls hmeas hi hP hD hS hl
      refine lv_iload_n hx hb dPC_numberBlocks_2 rfl (lv_at hl 0 rfl) ?_
      refine lv_aload_n hx hb dPC_numberBlocks_3 rfl (lv_at hl 1 rfl) ?_
      refine vp_callSi (W.runV (As := []) (rest := [.int (nI i)]) ⟨hx, hb, hml, hown, hts⟩ (k_Picture_slots l dC dI cI cZ cL pi ab ap aw ah aq L Rz C ns bd pr wd ht (m_starts pr bd wd ht sta i) ) (cwV 0 hts (gV u_95 u_96 u_97 u_41 u_98) rfl rfl rfl (by decide +kernel) ⟨Nat.le_of_ble_eq_true rfl, Nat.le_of_ble_eq_true rfl⟩) (q_prePV hK hZ hP [0, 1, 2, 3, 4, 5] rfl rfl rfl) rfl rfl hl.1 rfl (lv_room (Nat.le_of_ble_eq_true rfl)) dPC_numberBlocks_4 ⟨Nat.le_of_ble_eq_true rfl, Nat.le_of_ble_eq_true rfl⟩) (fun r_ er_ => ?_)
      subst er_
      refine qn_cge (tgt := 36) hx hb dPC_numberBlocks_7 (by decide) (by omega) (by omega) (fun c_7 => ?_) (fun c_7 => ?_)
      · have e9 : i = C * Rz := by omega
        subst e9
        exact hret () _ _ _ _ dPC_numberBlocks_36 trivial hP hS
      · refine lv_aload_n hx hb dPC_numberBlocks_10 rfl (lv_at hl 1 rfl) ?_
        refine va_get (D := (dC, dI)) (ci := 3) (v := .ref aq) (C := "PacketRows$Picture") (T := TPC) (N := 8) hx hb hts inPC hown hK hP 0 rfl rfl 6 (by decide) (hU hts u_127) (fun _ h9 => h9) rfl dPC_numberBlocks_11 ?_
        refine lv_iload_n hx hb dPC_numberBlocks_14 rfl (lv_at hl 0 rfl) ?_
        refine lv_iconst (v := nI 1) hx hb dPC_numberBlocks_15 (by decide +kernel) ?_
        refine qn_iadd hx hb dPC_numberBlocks_16 ?_
        refine lv_aload_n hx hb dPC_numberBlocks_17 rfl (lv_at hl 1 rfl) ?_
        refine va_get (D := (dC, dI)) (ci := 3) (v := .ref aq) (C := "PacketRows$Picture") (T := TPC) (N := 8) hx hb hts inPC hown hK hP 0 rfl rfl 6 (by decide) (hU hts u_127) (fun _ h9 => h9) rfl dPC_numberBlocks_18 ?_
        refine lv_iload_n hx hb dPC_numberBlocks_21 rfl (lv_at hl 0 rfl) ?_
        refine qi_ald hx hb hK hP 5 0 rfl rfl (k := i) (by omega) (by omega) dPC_numberBlocks_22 ?_
        refine lv_aload_n hx hb dPC_numberBlocks_23 rfl (lv_at hl 1 rfl) ?_
        refine lv_iload_n hx hb dPC_numberBlocks_24 rfl (lv_at hl 0 rfl) ?_
        refine vp_callSi (W.runV (As := [.int (nI i)]) (rest := [.int (nI ((m_starts pr bd wd ht sta i) i)), .int (nI (i + 1)), .ref aq]) ⟨hx, hb, hml, hown, hts⟩ (k_Picture_slotSize l dC dI cI cZ cL pi ab ap aw ah aq L Rz C ns bd pr wd ht (m_starts pr bd wd ht sta i) i (by omega) (by omega)) (cwV 1 hts (gV u_103 u_104 u_105 u_41 u_106) rfl rfl rfl (by decide +kernel) ⟨Nat.le_of_ble_eq_true rfl, Nat.le_of_ble_eq_true rfl⟩) (q_prePV hK hZ hP [0, 1, 2, 3, 4, 5] rfl rfl rfl) rfl rfl hl.1 rfl (lv_room (Nat.le_of_ble_eq_true rfl)) dPC_numberBlocks_25 ⟨Nat.le_of_ble_eq_true rfl, Nat.le_of_ble_eq_true rfl⟩) (fun r_ er_ => ?_)
        subst er_
        refine qn_iadd hx hb dPC_numberBlocks_28 ?_
        refine qi_ast hx hb hK hP hD hS 5 0 rfl rfl (k := i + 1) (v := (m_starts pr bd wd ht sta i) i + (pr i * bd i * (wd i * ht i))) (by omega) (by omega) dPC_numberBlocks_29 (fun H locs hP hD hS => ?_)
        have hP : va_P (dC, dI) vwCl [(pi, .inr (3, [.int (nI L), .int (nI Rz), .ref ab, .ref ap, .ref aw, .ref ah, .ref aq, .int (nI C)])), (ab, .inl (cI, ns, .inl (fun j => nI (bd j)))), (ap, .inl (cI, ns, .inl (fun j => nI (pr j)))), (aw, .inl (cI, ns, .inl (fun j => nI (wd j)))), (ah, .inl (cI, ns, .inl (fun j => nI (ht j)))), (aq, .inl (cI, ns + 1, .inl (fun j => nI ((va_up (m_starts pr bd wd ht sta i) (i + 1) ((m_starts pr bd wd ht sta i) i + (pr i * bd i * (wd i * ht i)))) j))))] H := hP
        have hD : va_D A [(pi, .inr (3, [.int (nI L), .int (nI Rz), .ref ab, .ref ap, .ref aw, .ref ah, .ref aq, .int (nI C)])), (ab, .inl (cI, ns, .inl (fun j => nI (bd j)))), (ap, .inl (cI, ns, .inl (fun j => nI (pr j)))), (aw, .inl (cI, ns, .inl (fun j => nI (wd j)))), (ah, .inl (cI, ns, .inl (fun j => nI (ht j)))), (aq, .inl (cI, ns + 1, .inl (fun j => nI ((va_up (m_starts pr bd wd ht sta i) (i + 1) ((m_starts pr bd wd ht sta i) i + (pr i * bd i * (wd i * ht i)))) j))))] := hD
        refine lv_iinc (v := nI (i + 1)) (lv' := [(1, .int (nI (i + 1))), (0, .ref pi)]) hx hb dPC_numberBlocks_30 hl (k := 0) rfl (nI_inc _) (by decide) rfl (fun ls hl => ?_)
        refine lv_goto (tgt := 2) hx hb dPC_numberBlocks_33 (by decide) ?_
        exact ih_2 (i + 1) _ _ _ (by omega) (by omega) (by rw [m_starts_s] at hP; exact hP) (by rw [m_starts_s] at hD; exact hD) hS (lv_sub hl [0, 1] rfl)
  exact lp_2 _ 0 _ _ _ (Nat.lt_succ_self _) (Nat.zero_le _) (by rw [m_starts_0 hz]; exact hP) (by rw [m_starts_0 hz]; exact hD) hS (lv_sub hl [0, 1] rfl)
set_option maxHeartbeats 4000000 in
set_option maxRecDepth 100000 in
theorem k_Picture_mostPackets (l : Launch) (dC : Nat → ClassId) (dI : Nat → Nat → Nat) (cI cZ cL : ClassId) (pi ab ap aw ah aq L Rz C ns : Nat) (bd pr wd ht sta : Nat → Nat)  :
    q_CP l (dC, dI) vwCl (tyL cI cZ cL) yPC_mostPackets wsPC_mostPackets (rmD 0) [.ref pi] [(pi, .inr (3, [.int (nI L), .int (nI Rz), .ref ab, .ref ap, .ref aw, .ref ah, .ref aq, .int (nI C)])), (ab, .inl (cI, ns, .inl (fun j => nI (bd j)))), (ap, .inl (cI, ns, .inl (fun j => nI (pr j)))), (aw, .inl (cI, ns, .inl (fun j => nI (wd j)))), (ah, .inl (cI, ns, .inl (fun j => nI (ht j)))), (aq, .inl (cI, ns + 1, .inl (fun j => nI (sta j))))] (nI (L * Rz * 3 * 4)) := by
  refine q_entP "PacketRows$Picture" (by decide) rfl rfl rfl (Nat.le_of_ble_eq_true rfl) ?_
  intro p e s m below meth c ls Q hx hb hml hts hown hP hK hZ hl hret
  have hl : lv_has ls 1 [(0, .ref pi)] := hl
  refine lv_aload_n hx hb dPC_mostPackets_0 rfl (lv_at hl 0 rfl) ?_
  refine va_get (D := (dC, dI)) (ci := 3) (v := .int (nI L)) (C := "PacketRows$Picture") (T := TPC) (N := 8) hx hb hts inPC hown hK hP 0 rfl rfl 0 (by decide) (hU hts u_111) (fun _ h9 => h9) rfl dPC_mostPackets_1 ?_
  refine lv_aload_n hx hb dPC_mostPackets_4 rfl (lv_at hl 0 rfl) ?_
  refine va_get (D := (dC, dI)) (ci := 3) (v := .int (nI Rz)) (C := "PacketRows$Picture") (T := TPC) (N := 8) hx hb hts inPC hown hK hP 0 rfl rfl 1 (by decide) (hU hts u_114) (fun _ h9 => h9) rfl dPC_mostPackets_5 ?_
  refine qn_imul hx hb dPC_mostPackets_8 ?_
  refine lv_iconst (v := nI 3) hx hb dPC_mostPackets_9 (by decide +kernel) ?_
  refine qn_imul hx hb dPC_mostPackets_10 ?_
  refine lv_iconst (v := nI 4) hx hb dPC_mostPackets_11 (by decide +kernel) ?_
  refine qn_imul hx hb dPC_mostPackets_12 ?_
  exact qn_eq rfl (hret _ _ dPC_mostPackets_13)
set_option maxHeartbeats 4000000 in
set_option maxRecDepth 100000 in
theorem k_Picture_mostBlocks (l : Launch) (dC : Nat → ClassId) (dI : Nat → Nat → Nat) (cI cZ cL : ClassId) (pi ab ap aw ah aq L Rz C ns : Nat) (bd pr wd ht sta : Nat → Nat) (h1 : 1 ≤ Rz) (h2 : Rz ≤ 4) :
    q_CP l (dC, dI) vwCl (tyL cI cZ cL) yPC_mostBlocks wsPC_mostBlocks (rmD 0) [.ref pi] [(pi, .inr (3, [.int (nI L), .int (nI Rz), .ref ab, .ref ap, .ref aw, .ref ah, .ref aq, .int (nI C)])), (ab, .inl (cI, ns, .inl (fun j => nI (bd j)))), (ap, .inl (cI, ns, .inl (fun j => nI (pr j)))), (aw, .inl (cI, ns, .inl (fun j => nI (wd j)))), (ah, .inl (cI, ns, .inl (fun j => nI (ht j)))), (aq, .inl (cI, ns + 1, .inl (fun j => nI (sta j))))] (nI (m_most Rz)) := by
  refine q_entP "PacketRows$Picture" (by decide) rfl rfl rfl (Nat.le_of_ble_eq_true rfl) ?_
  intro p e s m below meth c ls Q hx hb hml hts hown hP hK hZ hl hret
  have hl : lv_has ls 4 [(0, .ref pi)] := hl
  refine lv_aload_n hx hb dPC_mostBlocks_0 rfl (lv_at hl 0 rfl) ?_
  refine va_get (D := (dC, dI)) (ci := 3) (v := .int (nI Rz)) (C := "PacketRows$Picture") (T := TPC) (N := 8) hx hb hts inPC hown hK hP 0 rfl rfl 1 (by decide) (hU hts u_114) (fun _ h9 => h9) rfl dPC_mostBlocks_1 ?_
  refine lv_iconst (v := nI 1) hx hb dPC_mostBlocks_4 (by decide +kernel) ?_
  refine qn_isub hx hb dPC_mostBlocks_5 (by omega) ?_
  refine lv_istore_n (lv' := [(1, .int (nI (Rz - 1))), (0, .ref pi)]) hx hb dPC_mostBlocks_6 rfl hl (by decide) rfl (fun ls hl => ?_)
  refine lv_sipush (v := nI 400) hx hb dPC_mostBlocks_7 (by decide +kernel) ?_
  refine lv_iconst (v := nI 2) hx hb dPC_mostBlocks_10 (by decide +kernel) ?_
  refine lv_iconst (v := nI 1) hx hb dPC_mostBlocks_11 (by decide +kernel) ?_
  refine lv_iconst (v := nI 3) hx hb dPC_mostBlocks_12 (by decide +kernel) ?_
  refine lv_iload_n hx hb dPC_mostBlocks_13 rfl (lv_at hl 0 rfl) ?_
  refine qn_imul hx hb dPC_mostBlocks_14 ?_
  refine qn_iadd hx hb dPC_mostBlocks_15 ?_
  refine qn_imul hx hb dPC_mostBlocks_16 ?_
  refine qn_iadd hx hb dPC_mostBlocks_17 ?_
  refine lv_istore_n (lv' := [(2, .int (nI (400 + (2 * (1 + (3 * (Rz - 1))))))), (1, .int (nI (Rz - 1))), (0, .ref pi)]) hx hb dPC_mostBlocks_18 rfl hl (by decide) rfl (fun ls hl => ?_)
  refine lv_iconst (v := nI 3) hx hb dPC_mostBlocks_19 (by decide +kernel) ?_
  refine lv_iconst (v := nI 1) hx hb dPC_mostBlocks_20 (by decide +kernel) ?_
  refine lv_iconst (v := nI 3) hx hb dPC_mostBlocks_21 (by decide +kernel) ?_
  refine lv_iload_n hx hb dPC_mostBlocks_22 rfl (lv_at hl 1 rfl) ?_
  refine qn_imul hx hb dPC_mostBlocks_23 ?_
  refine qn_iadd hx hb dPC_mostBlocks_24 ?_
  refine qn_imul hx hb dPC_mostBlocks_25 ?_
  refine lv_iconst (v := nI 4) hx hb dPC_mostBlocks_26 (by decide +kernel) ?_
  refine qn_imul hx hb dPC_mostBlocks_27 ?_
  refine lv_iconst (v := nI 4) hx hb dPC_mostBlocks_28 (by decide +kernel) ?_
  refine qn_imul hx hb dPC_mostBlocks_29 ?_
  refine lv_iconst (v := nI 3) hx hb dPC_mostBlocks_30 (by decide +kernel) ?_
  refine qn_imul hx hb dPC_mostBlocks_31 ?_
  refine lv_istore_n (lv' := [(3, .int (nI ((((3 * (1 + (3 * (Rz - 1)))) * 4) * 4) * 3))), (2, .int (nI (400 + (2 * (1 + (3 * (Rz - 1))))))), (1, .int (nI (Rz - 1))), (0, .ref pi)]) hx hb dPC_mostBlocks_32 rfl hl (by decide) rfl (fun ls hl => ?_)
  refine lv_iload_n hx hb dPC_mostBlocks_33 rfl (lv_at hl 1 rfl) ?_
  refine lv_iload_n hx hb dPC_mostBlocks_34 rfl (lv_at hl 0 rfl) ?_
  refine va_mmin hx hb (by rw [hml]; exact hl.1.symm) hown (hU hts u_157) (hU hts u_82) (hU hts u_42) (hU hts u_83) (Nat.le_of_ble_eq_true rfl) (Nat.le_of_ble_eq_true rfl) (Nat.le_of_ble_eq_true rfl) (Nat.le_of_ble_eq_true rfl) dPC_mostBlocks_35 ?_
  refine qn_eq (y := nI (min (400 + (2 * (1 + (3 * (Rz - 1))))) ((((3 * (1 + (3 * (Rz - 1)))) * 4) * 4) * 3))) (q_min (by omega) (by omega)) ?_
  refine qn_eq (y := nI (m_most Rz)) rfl ?_
  exact hret _ _ dPC_mostBlocks_38
set_option maxHeartbeats 4000000 in
set_option maxRecDepth 100000 in
theorem k_Picture_slotOf (l : Launch) (dC : Nat → ClassId) (dI : Nat → Nat → Nat) (cI cZ cL : ClassId) (pi ab ap aw ah aq L Rz C ns : Nat) (bd pr wd ht sta : Nat → Nat) (x y : Int32) (h1 : 1 ≤ C) (h2 : 1 ≤ Rz) :
    q_CP l (dC, dI) vwCl (tyL cI cZ cL) yPC_slotOf wsPC_slotOf (rmD 1) [.ref pi, .int x, .int y] [(pi, .inr (3, [.int (nI L), .int (nI Rz), .ref ab, .ref ap, .ref aw, .ref ah, .ref aq, .int (nI C)])), (ab, .inl (cI, ns, .inl (fun j => nI (bd j)))), (ap, .inl (cI, ns, .inl (fun j => nI (pr j)))), (aw, .inl (cI, ns, .inl (fun j => nI (wd j)))), (ah, .inl (cI, ns, .inl (fun j => nI (ht j)))), (aq, .inl (cI, ns + 1, .inl (fun j => nI (sta j))))] (m_slotOf C Rz x y) := by
  refine q_entP "PacketRows$Picture" (by decide) rfl rfl rfl (Nat.le_of_ble_eq_true rfl) ?_
  intro p e s m below meth c ls Q hx hb hml hts hown hP hK hZ hl hret
  have hl : lv_has ls 3 [(0, .ref pi), (1, .int x), (2, .int y)] := hl
  refine lv_iload_n hx hb dPC_slotOf_0 rfl (lv_at hl 1 rfl) ?_
  refine lv_iconst (v := nI 0) hx hb dPC_slotOf_1 (by decide +kernel) ?_
  refine lv_aload_n hx hb dPC_slotOf_2 rfl (lv_at hl 0 rfl) ?_
  refine va_get (D := (dC, dI)) (ci := 3) (v := .int (nI C)) (C := "PacketRows$Picture") (T := TPC) (N := 8) hx hb hts inPC hown hK hP 0 rfl rfl 7 (by decide) (hU hts u_131) (fun _ h9 => h9) rfl dPC_slotOf_3 ?_
  refine lv_iconst (v := nI 1) hx hb dPC_slotOf_6 (by decide +kernel) ?_
  refine qn_isub hx hb dPC_slotOf_7 (by omega) ?_
  refine vp_callSi (va_Run.run (va_runSN (As := [.int x, .int (nI 0), .int (nI (C - 1))]) (rest := []) ⟨hx, hb, hml, hown, hts⟩ (k_PacketRows_isWithin l dC dI cI cZ cL x (nI 0) (nI (C - 1)) ) ⟨va_cnB (host := "PacketRows") 3 hts (gU (gW u_921)) rfl rfl rfl (hZ.1 _ z_12) (hU hts u_40) (by decide +kernel) ⟨Nat.le_of_ble_eq_true rfl, Nat.le_of_ble_eq_true rfl⟩, hU hts u_920, trivial⟩ (q_preP hK hZ hP [] rfl) rfl rfl hl.1 rfl (lv_room (Nat.le_of_ble_eq_true rfl)) dPC_slotOf_8 ⟨Nat.le_of_ble_eq_true rfl, Nat.le_of_ble_eq_true rfl⟩)) (fun r_ er_ => ?_)
  subst er_
  refine qb_ieq (tgt := 28) hx hb dPC_slotOf_11 (by decide) (fun c_11 => ?_) (fun c_11 => ?_)
  · refine lv_iconst (v := (-1)) hx hb dPC_slotOf_28 (by decide +kernel) ?_
    exact qn_eq (by unfold m_slotOf; rw [if_neg (fun h => by first | exact absurd (of_decide_eq_false c_11) (fun q => q h.1) | exact absurd (of_decide_eq_false c_25) (fun q => q h.2))]) (hret _ _ dPC_slotOf_29)
  · refine lv_iload_n hx hb dPC_slotOf_14 rfl (lv_at hl 2 rfl) ?_
    refine lv_iconst (v := nI 0) hx hb dPC_slotOf_15 (by decide +kernel) ?_
    refine lv_aload_n hx hb dPC_slotOf_16 rfl (lv_at hl 0 rfl) ?_
    refine va_get (D := (dC, dI)) (ci := 3) (v := .int (nI Rz)) (C := "PacketRows$Picture") (T := TPC) (N := 8) hx hb hts inPC hown hK hP 0 rfl rfl 1 (by decide) (hU hts u_114) (fun _ h9 => h9) rfl dPC_slotOf_17 ?_
    refine lv_iconst (v := nI 1) hx hb dPC_slotOf_20 (by decide +kernel) ?_
    refine qn_isub hx hb dPC_slotOf_21 (by omega) ?_
    refine vp_callSi (va_Run.run (va_runSN (As := [.int y, .int (nI 0), .int (nI (Rz - 1))]) (rest := []) ⟨hx, hb, hml, hown, hts⟩ (k_PacketRows_isWithin l dC dI cI cZ cL y (nI 0) (nI (Rz - 1)) ) ⟨va_cnB (host := "PacketRows") 3 hts (gU (gW u_921)) rfl rfl rfl (hZ.1 _ z_12) (hU hts u_40) (by decide +kernel) ⟨Nat.le_of_ble_eq_true rfl, Nat.le_of_ble_eq_true rfl⟩, hU hts u_920, trivial⟩ (q_preP hK hZ hP [] rfl) rfl rfl hl.1 rfl (lv_room (Nat.le_of_ble_eq_true rfl)) dPC_slotOf_22 ⟨Nat.le_of_ble_eq_true rfl, Nat.le_of_ble_eq_true rfl⟩)) (fun r_ er_ => ?_)
    subst er_
    refine qb_ine (tgt := 30) hx hb dPC_slotOf_25 (by decide) (fun c_25 => ?_) (fun c_25 => ?_)
    · refine lv_iload_n hx hb dPC_slotOf_30 rfl (lv_at hl 1 rfl) ?_
      refine lv_aload_n hx hb dPC_slotOf_31 rfl (lv_at hl 0 rfl) ?_
      refine va_get (D := (dC, dI)) (ci := 3) (v := .int (nI Rz)) (C := "PacketRows$Picture") (T := TPC) (N := 8) hx hb hts inPC hown hK hP 0 rfl rfl 1 (by decide) (hU hts u_114) (fun _ h9 => h9) rfl dPC_slotOf_32 ?_
      refine lv_imul hx hb dPC_slotOf_35 ?_
      refine lv_iload_n hx hb dPC_slotOf_36 rfl (lv_at hl 2 rfl) ?_
      refine lv_iadd hx hb dPC_slotOf_37 ?_
      exact qn_eq (by unfold m_slotOf; rw [if_pos ⟨of_decide_eq_true c_11, of_decide_eq_true c_25⟩]) (hret _ _ dPC_slotOf_38)
    · refine lv_iconst (v := (-1)) hx hb dPC_slotOf_28 (by decide +kernel) ?_
      exact qn_eq (by unfold m_slotOf; rw [if_neg (fun h => by first | exact absurd (of_decide_eq_false c_11) (fun q => q h.1) | exact absurd (of_decide_eq_false c_25) (fun q => q h.2))]) (hret _ _ dPC_slotOf_29)
set_option maxHeartbeats 4000000 in
set_option maxRecDepth 100000 in
theorem k_Picture_hasBlock (l : Launch) (dC : Nat → ClassId) (dI : Nat → Nat → Nat) (cI cZ cL : ClassId) (pi ab ap aw ah aq L Rz C ns : Nat) (bd pr wd ht sta : Nat → Nat) (k : Nat) (x y z : Int32) (hk : k < ns) (hn : ns < 2 ^ 30) (h1 : 1 ≤ pr k) (h2 : 1 ≤ bd k) (h3 : 1 ≤ wd k * ht k) :
    q_CP l (dC, dI) vwCl (tyL cI cZ cL) yPC_hasBlock wsPC_hasBlock (rmD 1) [.ref pi, .int (nI k), .int x, .int y, .int z] [(pi, .inr (3, [.int (nI L), .int (nI Rz), .ref ab, .ref ap, .ref aw, .ref ah, .ref aq, .int (nI C)])), (ab, .inl (cI, ns, .inl (fun j => nI (bd j)))), (ap, .inl (cI, ns, .inl (fun j => nI (pr j)))), (aw, .inl (cI, ns, .inl (fun j => nI (wd j)))), (ah, .inl (cI, ns, .inl (fun j => nI (ht j)))), (aq, .inl (cI, ns + 1, .inl (fun j => nI (sta j))))] (bI (m_has (pr k) (bd k) (wd k * ht k) x y z)) := by
  refine q_entP "PacketRows$Picture" (by decide) rfl (bI_nb _) rfl (Nat.le_of_ble_eq_true rfl) ?_
  intro p e s m below meth c ls Q hx hb hml hts hown hP hK hZ hl hret
  have hl : lv_has ls 5 [(0, .ref pi), (1, .int (nI k)), (2, .int x), (3, .int y), (4, .int z)] := hl
  refine lv_iload_n hx hb dPC_hasBlock_0 rfl (lv_at hl 2 rfl) ?_
  refine lv_iconst (v := nI 0) hx hb dPC_hasBlock_1 (by decide +kernel) ?_
  refine lv_aload_n hx hb dPC_hasBlock_2 rfl (lv_at hl 0 rfl) ?_
  refine va_get (D := (dC, dI)) (ci := 3) (v := .ref ap) (C := "PacketRows$Picture") (T := TPC) (N := 8) hx hb hts inPC hown hK hP 0 rfl rfl 3 (by decide) (hU hts u_120) (fun _ h9 => h9) rfl dPC_hasBlock_3 ?_
  refine lv_iload_n hx hb dPC_hasBlock_6 rfl (lv_at hl 1 rfl) ?_
  refine qi_ald hx hb hK hP 2 0 rfl rfl (k := k) (by omega) (by omega) dPC_hasBlock_7 ?_
  refine lv_iconst (v := nI 1) hx hb dPC_hasBlock_8 (by decide +kernel) ?_
  refine qn_isub hx hb dPC_hasBlock_9 (by omega) ?_
  refine vp_callSi (va_Run.run (va_runSN (As := [.int x, .int (nI 0), .int (nI ((pr k) - 1))]) (rest := []) ⟨hx, hb, hml, hown, hts⟩ (k_PacketRows_isWithin l dC dI cI cZ cL x (nI 0) (nI ((pr k) - 1)) ) ⟨va_cnB (host := "PacketRows") 3 hts (gU (gW u_921)) rfl rfl rfl (hZ.1 _ z_12) (hU hts u_40) (by decide +kernel) ⟨Nat.le_of_ble_eq_true rfl, Nat.le_of_ble_eq_true rfl⟩, hU hts u_920, trivial⟩ (q_preP hK hZ hP [] rfl) rfl rfl hl.1 rfl (lv_room (Nat.le_of_ble_eq_true rfl)) dPC_hasBlock_10 ⟨Nat.le_of_ble_eq_true rfl, Nat.le_of_ble_eq_true rfl⟩)) (fun r_ er_ => ?_)
  subst er_
  have jn_53 : W p l e (headSpec wsPC_hasBlock (rmD 1)).room s m [.ref pi, .int (nI k), .int x, .int y, .int z].toArray below meth c s.heap [] 0 0 Q (F0 m 53 ls [.int (bI (m_has (pr k) (bd k) (wd k * ht k) x y z))]) := by
    exact hret _ _ dPC_hasBlock_53
  refine qb_ieq (tgt := 52) hx hb dPC_hasBlock_13 (by decide) (fun c_13 => ?_) (fun c_13 => ?_)
  · refine lv_iconst (v := nI 0) hx hb dPC_hasBlock_52 (by decide +kernel) ?_
    exact qn_eq (by unfold m_has; first | (rw [c_13]; rfl) | (rw [c_13, c_29]; rfl) | (rw [c_13, c_29, c_45]; rfl)) jn_53
  · refine lv_iload_n hx hb dPC_hasBlock_16 rfl (lv_at hl 3 rfl) ?_
    refine lv_iconst (v := nI 0) hx hb dPC_hasBlock_17 (by decide +kernel) ?_
    refine lv_aload_n hx hb dPC_hasBlock_18 rfl (lv_at hl 0 rfl) ?_
    refine va_get (D := (dC, dI)) (ci := 3) (v := .ref ab) (C := "PacketRows$Picture") (T := TPC) (N := 8) hx hb hts inPC hown hK hP 0 rfl rfl 2 (by decide) (hU hts u_117) (fun _ h9 => h9) rfl dPC_hasBlock_19 ?_
    refine lv_iload_n hx hb dPC_hasBlock_22 rfl (lv_at hl 1 rfl) ?_
    refine qi_ald hx hb hK hP 1 0 rfl rfl (k := k) (by omega) (by omega) dPC_hasBlock_23 ?_
    refine lv_iconst (v := nI 1) hx hb dPC_hasBlock_24 (by decide +kernel) ?_
    refine qn_isub hx hb dPC_hasBlock_25 (by omega) ?_
    refine vp_callSi (va_Run.run (va_runSN (As := [.int y, .int (nI 0), .int (nI ((bd k) - 1))]) (rest := []) ⟨hx, hb, hml, hown, hts⟩ (k_PacketRows_isWithin l dC dI cI cZ cL y (nI 0) (nI ((bd k) - 1)) ) ⟨va_cnB (host := "PacketRows") 3 hts (gU (gW u_921)) rfl rfl rfl (hZ.1 _ z_12) (hU hts u_40) (by decide +kernel) ⟨Nat.le_of_ble_eq_true rfl, Nat.le_of_ble_eq_true rfl⟩, hU hts u_920, trivial⟩ (q_preP hK hZ hP [] rfl) rfl rfl hl.1 rfl (lv_room (Nat.le_of_ble_eq_true rfl)) dPC_hasBlock_26 ⟨Nat.le_of_ble_eq_true rfl, Nat.le_of_ble_eq_true rfl⟩)) (fun r_ er_ => ?_)
    subst er_
    refine qb_ieq (tgt := 52) hx hb dPC_hasBlock_29 (by decide) (fun c_29 => ?_) (fun c_29 => ?_)
    · refine lv_iconst (v := nI 0) hx hb dPC_hasBlock_52 (by decide +kernel) ?_
      exact qn_eq (by unfold m_has; first | (rw [c_13]; rfl) | (rw [c_13, c_29]; rfl) | (rw [c_13, c_29, c_45]; rfl)) jn_53
    · refine lv_iload hx hb dPC_hasBlock_32 (lv_at hl 4 rfl) ?_
      refine lv_iconst (v := nI 0) hx hb dPC_hasBlock_34 (by decide +kernel) ?_
      refine lv_aload_n hx hb dPC_hasBlock_35 rfl (lv_at hl 0 rfl) ?_
      refine lv_iload_n hx hb dPC_hasBlock_36 rfl (lv_at hl 1 rfl) ?_
      refine vp_callSi (W.runV (As := [.int (nI k)]) (rest := [.int (nI 0), .int z]) ⟨hx, hb, hml, hown, hts⟩ (k_Picture_bandSize l dC dI cI cZ cL pi ab ap aw ah aq L Rz C ns bd pr wd ht sta k (by omega) (by omega)) (cwV 1 hts (gV u_107 u_108 u_109 u_41 u_110) rfl rfl rfl (by decide +kernel) ⟨Nat.le_of_ble_eq_true rfl, Nat.le_of_ble_eq_true rfl⟩) (q_prePV hK hZ hP [0, 1, 2, 3, 4, 5] rfl rfl rfl) rfl rfl hl.1 rfl (lv_room (Nat.le_of_ble_eq_true rfl)) dPC_hasBlock_37 ⟨Nat.le_of_ble_eq_true rfl, Nat.le_of_ble_eq_true rfl⟩) (fun r_ er_ => ?_)
      subst er_
      refine lv_iconst (v := nI 1) hx hb dPC_hasBlock_40 (by decide +kernel) ?_
      refine qn_isub hx hb dPC_hasBlock_41 (by omega) ?_
      refine vp_callSi (va_Run.run (va_runSN (As := [.int z, .int (nI 0), .int (nI ((wd k * ht k) - 1))]) (rest := []) ⟨hx, hb, hml, hown, hts⟩ (k_PacketRows_isWithin l dC dI cI cZ cL z (nI 0) (nI ((wd k * ht k) - 1)) ) ⟨va_cnB (host := "PacketRows") 3 hts (gU (gW u_921)) rfl rfl rfl (hZ.1 _ z_12) (hU hts u_40) (by decide +kernel) ⟨Nat.le_of_ble_eq_true rfl, Nat.le_of_ble_eq_true rfl⟩, hU hts u_920, trivial⟩ (q_preP hK hZ hP [] rfl) rfl rfl hl.1 rfl (lv_room (Nat.le_of_ble_eq_true rfl)) dPC_hasBlock_42 ⟨Nat.le_of_ble_eq_true rfl, Nat.le_of_ble_eq_true rfl⟩)) (fun r_ er_ => ?_)
      subst er_
      refine qb_ieq (tgt := 52) hx hb dPC_hasBlock_45 (by decide) (fun c_45 => ?_) (fun c_45 => ?_)
      · refine lv_iconst (v := nI 0) hx hb dPC_hasBlock_52 (by decide +kernel) ?_
        exact qn_eq (by unfold m_has; first | (rw [c_13]; rfl) | (rw [c_13, c_29]; rfl) | (rw [c_13, c_29, c_45]; rfl)) jn_53
      · refine lv_iconst (v := nI 1) hx hb dPC_hasBlock_48 (by decide +kernel) ?_
        refine lv_goto (tgt := 53) hx hb dPC_hasBlock_49 (by decide) ?_
        exact qn_eq (by unfold m_has; rw [c_13, c_29, c_45]; rfl) jn_53
set_option maxHeartbeats 4000000 in
set_option maxRecDepth 100000 in
theorem k_Picture_shape (l : Launch) (dC : Nat → ClassId) (dI : Nat → Nat → Nat) (cI cZ cL : ClassId) (pi ab ap aw ah aq L Rz C ns : Nat) (bd pr wd ht sta : Nat → Nat) (k a y z : Nat) (hk : k < ns) (hs : C * Rz ≤ ns) (hn : ns < 2 ^ 30) (hz : sta 0 = 0) :
    q_CV l (dC, dI) vwCl (tyL cI cZ cL) yPC_shape wsPC_shape (rmD 3) [.ref pi, .int (nI k), .int (nI a), .int (nI y), .int (nI z)] [(pi, .inr (3, [.int (nI L), .int (nI Rz), .ref ab, .ref ap, .ref aw, .ref ah, .ref aq, .int (nI C)])), (ab, .inl (cI, ns, .inl (fun j => nI (bd j)))), (ap, .inl (cI, ns, .inl (fun j => nI (pr j)))), (aw, .inl (cI, ns, .inl (fun j => nI (wd j)))), (ah, .inl (cI, ns, .inl (fun j => nI (ht j)))), (aq, .inl (cI, ns + 1, .inl (fun j => nI (sta j))))] (fun (_ : Unit) => True) (fun (_ : Unit) => [(pi, .inr (3, [.int (nI L), .int (nI Rz), .ref ab, .ref ap, .ref aw, .ref ah, .ref aq, .int (nI C)])), (ab, .inl (cI, ns, .inl (fun j => nI (bd j)))), (ap, .inl (cI, ns, .inl (fun j => nI ((va_up pr k a) j)))), (aw, .inl (cI, ns, .inl (fun j => nI ((va_up wd k y) j)))), (ah, .inl (cI, ns, .inl (fun j => nI ((va_up ht k z) j)))), (aq, .inl (cI, ns + 1, .inl (fun j => nI ((m_starts (va_up pr k a) bd (va_up wd k y) (va_up ht k z) sta (C * Rz)) j))))]) := by
  refine q_entV "PacketRows$Picture" (by decide) rfl rfl (Nat.le_of_ble_eq_true rfl) ?_
  intro p e s m below meth c ls Q A hx hb hml hts hown hP hD hK hZ hO hA hS hl hret
  have hl : lv_has ls 5 [(0, .ref pi), (1, .int (nI k)), (2, .int (nI a)), (3, .int (nI y)), (4, .int (nI z))] := hl
  refine lv_aload_n hx hb dPC_shape_0 rfl (lv_at hl 0 rfl) ?_
  refine va_get (D := (dC, dI)) (ci := 3) (v := .ref ap) (C := "PacketRows$Picture") (T := TPC) (N := 8) hx hb hts inPC hown hK hP 0 rfl rfl 3 (by decide) (hU hts u_120) (fun _ h9 => h9) rfl dPC_shape_1 ?_
  refine lv_iload_n hx hb dPC_shape_4 rfl (lv_at hl 1 rfl) ?_
  refine lv_iload_n hx hb dPC_shape_5 rfl (lv_at hl 2 rfl) ?_
  refine qi_ast hx hb hK hP hD hS 2 0 rfl rfl (k := k) (v := a) (by omega) (by omega) dPC_shape_6 (fun H locs hP hD hS => ?_)
  have hP : va_P (dC, dI) vwCl [(pi, .inr (3, [.int (nI L), .int (nI Rz), .ref ab, .ref ap, .ref aw, .ref ah, .ref aq, .int (nI C)])), (ab, .inl (cI, ns, .inl (fun j => nI (bd j)))), (ap, .inl (cI, ns, .inl (fun j => nI ((va_up pr k a) j)))), (aw, .inl (cI, ns, .inl (fun j => nI (wd j)))), (ah, .inl (cI, ns, .inl (fun j => nI (ht j)))), (aq, .inl (cI, ns + 1, .inl (fun j => nI (sta j))))] H := hP
  have hD : va_D A [(pi, .inr (3, [.int (nI L), .int (nI Rz), .ref ab, .ref ap, .ref aw, .ref ah, .ref aq, .int (nI C)])), (ab, .inl (cI, ns, .inl (fun j => nI (bd j)))), (ap, .inl (cI, ns, .inl (fun j => nI ((va_up pr k a) j)))), (aw, .inl (cI, ns, .inl (fun j => nI (wd j)))), (ah, .inl (cI, ns, .inl (fun j => nI (ht j)))), (aq, .inl (cI, ns + 1, .inl (fun j => nI (sta j))))] := hD
  refine lv_aload_n hx hb dPC_shape_7 rfl (lv_at hl 0 rfl) ?_
  refine va_get (D := (dC, dI)) (ci := 3) (v := .ref aw) (C := "PacketRows$Picture") (T := TPC) (N := 8) hx hb hts inPC hown hK hP 0 rfl rfl 4 (by decide) (hU hts u_123) (fun _ h9 => h9) rfl dPC_shape_8 ?_
  refine lv_iload_n hx hb dPC_shape_11 rfl (lv_at hl 1 rfl) ?_
  refine lv_iload_n hx hb dPC_shape_12 rfl (lv_at hl 3 rfl) ?_
  refine qi_ast hx hb hK hP hD hS 3 0 rfl rfl (k := k) (v := y) (by omega) (by omega) dPC_shape_13 (fun H locs hP hD hS => ?_)
  have hP : va_P (dC, dI) vwCl [(pi, .inr (3, [.int (nI L), .int (nI Rz), .ref ab, .ref ap, .ref aw, .ref ah, .ref aq, .int (nI C)])), (ab, .inl (cI, ns, .inl (fun j => nI (bd j)))), (ap, .inl (cI, ns, .inl (fun j => nI ((va_up pr k a) j)))), (aw, .inl (cI, ns, .inl (fun j => nI ((va_up wd k y) j)))), (ah, .inl (cI, ns, .inl (fun j => nI (ht j)))), (aq, .inl (cI, ns + 1, .inl (fun j => nI (sta j))))] H := hP
  have hD : va_D A [(pi, .inr (3, [.int (nI L), .int (nI Rz), .ref ab, .ref ap, .ref aw, .ref ah, .ref aq, .int (nI C)])), (ab, .inl (cI, ns, .inl (fun j => nI (bd j)))), (ap, .inl (cI, ns, .inl (fun j => nI ((va_up pr k a) j)))), (aw, .inl (cI, ns, .inl (fun j => nI ((va_up wd k y) j)))), (ah, .inl (cI, ns, .inl (fun j => nI (ht j)))), (aq, .inl (cI, ns + 1, .inl (fun j => nI (sta j))))] := hD
  refine lv_aload_n hx hb dPC_shape_14 rfl (lv_at hl 0 rfl) ?_
  refine va_get (D := (dC, dI)) (ci := 3) (v := .ref ah) (C := "PacketRows$Picture") (T := TPC) (N := 8) hx hb hts inPC hown hK hP 0 rfl rfl 5 (by decide) (hU hts u_125) (fun _ h9 => h9) rfl dPC_shape_15 ?_
  refine lv_iload_n hx hb dPC_shape_18 rfl (lv_at hl 1 rfl) ?_
  refine lv_iload hx hb dPC_shape_19 (lv_at hl 4 rfl) ?_
  refine qi_ast hx hb hK hP hD hS 4 0 rfl rfl (k := k) (v := z) (by omega) (by omega) dPC_shape_21 (fun H locs hP hD hS => ?_)
  have hP : va_P (dC, dI) vwCl [(pi, .inr (3, [.int (nI L), .int (nI Rz), .ref ab, .ref ap, .ref aw, .ref ah, .ref aq, .int (nI C)])), (ab, .inl (cI, ns, .inl (fun j => nI (bd j)))), (ap, .inl (cI, ns, .inl (fun j => nI ((va_up pr k a) j)))), (aw, .inl (cI, ns, .inl (fun j => nI ((va_up wd k y) j)))), (ah, .inl (cI, ns, .inl (fun j => nI ((va_up ht k z) j)))), (aq, .inl (cI, ns + 1, .inl (fun j => nI (sta j))))] H := hP
  have hD : va_D A [(pi, .inr (3, [.int (nI L), .int (nI Rz), .ref ab, .ref ap, .ref aw, .ref ah, .ref aq, .int (nI C)])), (ab, .inl (cI, ns, .inl (fun j => nI (bd j)))), (ap, .inl (cI, ns, .inl (fun j => nI ((va_up pr k a) j)))), (aw, .inl (cI, ns, .inl (fun j => nI ((va_up wd k y) j)))), (ah, .inl (cI, ns, .inl (fun j => nI ((va_up ht k z) j)))), (aq, .inl (cI, ns + 1, .inl (fun j => nI (sta j))))] := hD
  refine lv_aload_n hx hb dPC_shape_22 rfl (lv_at hl 0 rfl) ?_
  refine q_callv (va_runV (As := []) (rest := []) ⟨hx, hb, hml, hown, hts⟩ (k_Picture_numberBlocks l dC dI cI cZ cL pi ab ap aw ah aq L Rz C ns bd (va_up pr k a) (va_up wd k y) (va_up ht k z) sta (by omega) (by omega) (by omega) H.size) (cwV 0 hts (gV u_99 u_101 u_0 u_41 u_102) rfl rfl rfl (by decide +kernel) ⟨Nat.le_of_ble_eq_true rfl, Nat.le_of_ble_eq_true rfl⟩) (q_preMV hK hZ hO hS hA hP hD [0, 1, 2, 3, 4, 5] rfl (by decide) rfl rfl) rfl rfl hl.1 rfl (lv_room (Nat.le_of_ble_eq_true rfl)) dPC_shape_23 ⟨Nat.le_of_ble_eq_true rfl, Nat.le_of_ble_eq_true rfl⟩) hP hD hS hA [0, 1, 2, 3, 4, 5] rfl (by decide) (fun _ => by simp only [List.map_cons, List.map_nil]) (fun u_ H locs hpost hP hD hS => ?_)
  have hP : va_P (dC, dI) vwCl [(pi, .inr (3, [.int (nI L), .int (nI Rz), .ref ab, .ref ap, .ref aw, .ref ah, .ref aq, .int (nI C)])), (ab, .inl (cI, ns, .inl (fun j => nI (bd j)))), (ap, .inl (cI, ns, .inl (fun j => nI ((va_up pr k a) j)))), (aw, .inl (cI, ns, .inl (fun j => nI ((va_up wd k y) j)))), (ah, .inl (cI, ns, .inl (fun j => nI ((va_up ht k z) j)))), (aq, .inl (cI, ns + 1, .inl (fun j => nI ((m_starts (va_up pr k a) bd (va_up wd k y) (va_up ht k z) sta (C * Rz)) j))))] H := hP
  have hD : va_D A [(pi, .inr (3, [.int (nI L), .int (nI Rz), .ref ab, .ref ap, .ref aw, .ref ah, .ref aq, .int (nI C)])), (ab, .inl (cI, ns, .inl (fun j => nI (bd j)))), (ap, .inl (cI, ns, .inl (fun j => nI ((va_up pr k a) j)))), (aw, .inl (cI, ns, .inl (fun j => nI ((va_up wd k y) j)))), (ah, .inl (cI, ns, .inl (fun j => nI ((va_up ht k z) j)))), (aq, .inl (cI, ns + 1, .inl (fun j => nI ((m_starts (va_up pr k a) bd (va_up wd k y) (va_up ht k z) sta (C * Rz)) j))))] := hD
  exact hret () _ _ _ _ dPC_shape_26 trivial hP hS

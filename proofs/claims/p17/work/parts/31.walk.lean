set_option maxHeartbeats 4000000 in
set_option maxRecDepth 100000 in
theorem k_Picture_grow (l : Launch) (dC : Nat → ClassId) (dI : Nat → Nat → Nat) (cI cZ cL : ClassId) (pi ab ap aw ah aq L Rz C ns : Nat) (bd pr wd ht sta : Nat → Nat) (hs : (C + 1) * Rz ≤ ns) (hn : ns < 2 ^ 30) (hz : sta 0 = 0) :
    q_CV l (dC, dI) vwCl (tyL cI cZ cL) yPC_grow wsPC_grow (rmD 3) [.ref pi] [(pi, .inr (3, [.int (nI L), .int (nI Rz), .ref ab, .ref ap, .ref aw, .ref ah, .ref aq, .int (nI C)])), (ab, .inl (cI, ns, .inl (fun j => nI (bd j)))), (ap, .inl (cI, ns, .inl (fun j => nI (pr j)))), (aw, .inl (cI, ns, .inl (fun j => nI (wd j)))), (ah, .inl (cI, ns, .inl (fun j => nI (ht j)))), (aq, .inl (cI, ns + 1, .inl (fun j => nI (sta j))))] (fun (_ : Unit) => True) (fun (_ : Unit) => [(pi, .inr (3, [.int (nI L), .int (nI Rz), .ref ab, .ref ap, .ref aw, .ref ah, .ref aq, .int (nI (C + 1))])), (ab, .inl (cI, ns, .inl (fun j => nI ((m_put m_b13 (C * Rz) Rz bd) j)))), (ap, .inl (cI, ns, .inl (fun j => nI ((m_put m_one (C * Rz) Rz pr) j)))), (aw, .inl (cI, ns, .inl (fun j => nI ((m_put m_one (C * Rz) Rz wd) j)))), (ah, .inl (cI, ns, .inl (fun j => nI ((m_put m_one (C * Rz) Rz ht) j)))), (aq, .inl (cI, ns + 1, .inl (fun j => nI ((m_starts (m_put m_one (C * Rz) Rz pr) (m_put m_b13 (C * Rz) Rz bd) (m_put m_one (C * Rz) Rz wd) (m_put m_one (C * Rz) Rz ht) sta ((C + 1) * Rz)) j))))]) := by
  refine q_entV "PacketRows$Picture" (by decide) rfl rfl (Nat.le_of_ble_eq_true rfl) ?_
  intro p e s m below meth c ls Q A hx hb hml hts hown hP hD hK hZ hO hA hS hl hret
  have hl : lv_has ls 3 [(0, .ref pi)] := hl
  have hs2 : C * Rz + Rz ≤ ns := by have := hs; rw [Nat.add_mul, Nat.one_mul] at this; exact this
  refine lv_aload_n hx hb dPC_grow_0 rfl (lv_at hl 0 rfl) ?_
  refine vp_callSi (W.runV (As := []) (rest := []) ⟨hx, hb, hml, hown, hts⟩ (k_Picture_slots l dC dI cI cZ cL pi ab ap aw ah aq L Rz C ns bd pr wd ht sta ) (cwV 0 hts (gV u_95 u_96 u_97 u_41 u_98) rfl rfl rfl (by decide +kernel) ⟨Nat.le_of_ble_eq_true rfl, Nat.le_of_ble_eq_true rfl⟩) (q_prePV hK hZ hP [0, 1, 2, 3, 4, 5] rfl rfl rfl) rfl rfl hl.1 rfl (lv_room (Nat.le_of_ble_eq_true rfl)) dPC_grow_1 ⟨Nat.le_of_ble_eq_true rfl, Nat.le_of_ble_eq_true rfl⟩) (fun r_ er_ => ?_)
  subst er_
  refine lv_istore_n (lv' := [(1, .int (nI (C * Rz))), (0, .ref pi)]) hx hb dPC_grow_4 rfl hl (by decide) rfl (fun ls hl => ?_)
  refine lv_aload_n hx hb dPC_grow_5 rfl (lv_at hl 1 rfl) ?_
  refine lv_dup hx hb dPC_grow_6 rfl ?_
  refine va_get (D := (dC, dI)) (ci := 3) (v := .int (nI C)) (C := "PacketRows$Picture") (T := TPC) (N := 8) hx hb hts inPC hown hK hP 0 rfl rfl 7 (by decide) (hU hts u_131) (fun _ h9 => h9) rfl dPC_grow_7 ?_
  refine lv_iconst (v := nI 1) hx hb dPC_grow_10 (by decide +kernel) ?_
  refine qn_iadd hx hb dPC_grow_11 ?_
  refine va_put (D := (dC, dI)) (ci := 3) (v := .int (nI (C + 1))) (ty := .int) (C := "PacketRows$Picture") (T := TPC) (N := 8) hx hb hts inPC tyPC tyPC_ok nmPC hown hK hP hD hS 0 rfl rfl 7 (by decide) (hU hts u_131) (fun _ h9 => h9) rfl (by decide +kernel) rfl rfl (Nat.le_of_ble_eq_true rfl) dPC_grow_12 (fun H locs hP hD hS => ?_)
  have hP : va_P (dC, dI) vwCl [(pi, .inr (3, [.int (nI L), .int (nI Rz), .ref ab, .ref ap, .ref aw, .ref ah, .ref aq, .int (nI (C + 1))])), (ab, .inl (cI, ns, .inl (fun j => nI (bd j)))), (ap, .inl (cI, ns, .inl (fun j => nI (pr j)))), (aw, .inl (cI, ns, .inl (fun j => nI (wd j)))), (ah, .inl (cI, ns, .inl (fun j => nI (ht j)))), (aq, .inl (cI, ns + 1, .inl (fun j => nI (sta j))))] H := hP
  have hD : va_D A [(pi, .inr (3, [.int (nI L), .int (nI Rz), .ref ab, .ref ap, .ref aw, .ref ah, .ref aq, .int (nI (C + 1))])), (ab, .inl (cI, ns, .inl (fun j => nI (bd j)))), (ap, .inl (cI, ns, .inl (fun j => nI (pr j)))), (aw, .inl (cI, ns, .inl (fun j => nI (wd j)))), (ah, .inl (cI, ns, .inl (fun j => nI (ht j)))), (aq, .inl (cI, ns + 1, .inl (fun j => nI (sta j))))] := hD
  refine lv_iconst (v := nI 0) hx hb dPC_grow_15 (by decide +kernel) ?_
  refine lv_istore_n (lv' := [(2, .int (nI 0)), (1, .int (nI (C * Rz))), (0, .ref pi)]) hx hb dPC_grow_16 rfl hl (by decide) rfl (fun ls hl => ?_)
  have lp_17 : ∀ (fu : Nat) (i : Nat) (H : Heap) (locs : List Loc) (ls : Array Slot), Rz - i < fu → (i ≤ Rz) → va_P (dC, dI) vwCl [(pi, .inr (3, [.int (nI L), .int (nI Rz), .ref ab, .ref ap, .ref aw, .ref ah, .ref aq, .int (nI (C + 1))])), (ab, .inl (cI, ns, .inl (fun j => nI ((m_put m_b13 (C * Rz) i bd) j)))), (ap, .inl (cI, ns, .inl (fun j => nI ((m_put m_one (C * Rz) i pr) j)))), (aw, .inl (cI, ns, .inl (fun j => nI ((m_put m_one (C * Rz) i wd) j)))), (ah, .inl (cI, ns, .inl (fun j => nI ((m_put m_one (C * Rz) i ht) j)))), (aq, .inl (cI, ns + 1, .inl (fun j => nI (sta j))))] H → va_D A [(pi, .inr (3, [.int (nI L), .int (nI Rz), .ref ab, .ref ap, .ref aw, .ref ah, .ref aq, .int (nI (C + 1))])), (ab, .inl (cI, ns, .inl (fun j => nI ((m_put m_b13 (C * Rz) i bd) j)))), (ap, .inl (cI, ns, .inl (fun j => nI ((m_put m_one (C * Rz) i pr) j)))), (aw, .inl (cI, ns, .inl (fun j => nI ((m_put m_one (C * Rz) i wd) j)))), (ah, .inl (cI, ns, .inl (fun j => nI ((m_put m_one (C * Rz) i ht) j)))), (aq, .inl (cI, ns + 1, .inl (fun j => nI (sta j))))] → va_S A s.heap H locs → lv_has ls 3 [(2, .int (nI i)), (1, .int (nI (C * Rz))), (0, .ref pi)] → W p l e (headSpec wsPC_grow (rmD 3)).room s m [.ref pi].toArray below meth c H locs 0 0 Q (F0 m 17 ls []) := by
    intro fu
    induction fu with
    | zero => intro i H locs ls hmeas; exact absurd hmeas (Nat.not_lt_zero _)
    | succ fu ih_17 =>
      intro i H locs ls hmeas hi hP hD hS hl
      refine lv_iload_n hx hb dPC_grow_17 rfl (lv_at hl 0 rfl) ?_
      refine lv_aload_n hx hb dPC_grow_18 rfl (lv_at hl 2 rfl) ?_
      refine va_get (D := (dC, dI)) (ci := 3) (v := .int (nI Rz)) (C := "PacketRows$Picture") (T := TPC) (N := 8) hx hb hts inPC hown hK hP 0 rfl rfl 1 (by decide) (hU hts u_114) (fun _ h9 => h9) rfl dPC_grow_19 ?_
      refine qn_cge (tgt := 75) hx hb dPC_grow_22 (by decide) (by omega) (by omega) (fun c_22 => ?_) (fun c_22 => ?_)
      · have e9 : Rz = i := by omega
        subst e9
        refine lv_aload_n hx hb dPC_grow_75 rfl (lv_at hl 2 rfl) ?_
        refine q_callv (va_runV (As := []) (rest := []) ⟨hx, hb, hml, hown, hts⟩ (k_Picture_numberBlocks l dC dI cI cZ cL pi ab ap aw ah aq L Rz (C + 1) ns (m_put m_b13 (C * Rz) Rz bd) (m_put m_one (C * Rz) Rz pr) (m_put m_one (C * Rz) Rz wd) (m_put m_one (C * Rz) Rz ht) sta hs hn hz H.size) (cwV 0 hts (gV u_99 u_101 u_0 u_41 u_102) rfl rfl rfl (by decide +kernel) ⟨Nat.le_of_ble_eq_true rfl, Nat.le_of_ble_eq_true rfl⟩) (q_preMV hK hZ hO hS hA hP hD [0, 1, 2, 3, 4, 5] rfl (by decide) rfl rfl) rfl rfl hl.1 rfl (lv_room (Nat.le_of_ble_eq_true rfl)) dPC_grow_76 ⟨Nat.le_of_ble_eq_true rfl, Nat.le_of_ble_eq_true rfl⟩) hP hD hS hA [0, 1, 2, 3, 4, 5] rfl (by decide) (fun _ => by simp only [List.map_cons, List.map_nil]) (fun u_ H locs hpost hP hD hS => ?_)
        have hP : va_P (dC, dI) vwCl [(pi, .inr (3, [.int (nI L), .int (nI Rz), .ref ab, .ref ap, .ref aw, .ref ah, .ref aq, .int (nI (C + 1))])), (ab, .inl (cI, ns, .inl (fun j => nI ((m_put m_b13 (C * Rz) Rz bd) j)))), (ap, .inl (cI, ns, .inl (fun j => nI ((m_put m_one (C * Rz) Rz pr) j)))), (aw, .inl (cI, ns, .inl (fun j => nI ((m_put m_one (C * Rz) Rz wd) j)))), (ah, .inl (cI, ns, .inl (fun j => nI ((m_put m_one (C * Rz) Rz ht) j)))), (aq, .inl (cI, ns + 1, .inl (fun j => nI ((m_starts (m_put m_one (C * Rz) Rz pr) (m_put m_b13 (C * Rz) Rz bd) (m_put m_one (C * Rz) Rz wd) (m_put m_one (C * Rz) Rz ht) sta ((C + 1) * Rz)) j))))] H := hP
        have hD : va_D A [(pi, .inr (3, [.int (nI L), .int (nI Rz), .ref ab, .ref ap, .ref aw, .ref ah, .ref aq, .int (nI (C + 1))])), (ab, .inl (cI, ns, .inl (fun j => nI ((m_put m_b13 (C * Rz) Rz bd) j)))), (ap, .inl (cI, ns, .inl (fun j => nI ((m_put m_one (C * Rz) Rz pr) j)))), (aw, .inl (cI, ns, .inl (fun j => nI ((m_put m_one (C * Rz) Rz wd) j)))), (ah, .inl (cI, ns, .inl (fun j => nI ((m_put m_one (C * Rz) Rz ht) j)))), (aq, .inl (cI, ns + 1, .inl (fun j => nI ((m_starts (m_put m_one (C * Rz) Rz pr) (m_put m_b13 (C * Rz) Rz bd) (m_put m_one (C * Rz) Rz wd) (m_put m_one (C * Rz) Rz ht) sta ((C + 1) * Rz)) j))))] := hD
        exact hret () _ _ _ _ dPC_grow_79 trivial hP hS
      · refine lv_aload_n hx hb dPC_grow_25 rfl (lv_at hl 2 rfl) ?_
        refine va_get (D := (dC, dI)) (ci := 3) (v := .ref ab) (C := "PacketRows$Picture") (T := TPC) (N := 8) hx hb hts inPC hown hK hP 0 rfl rfl 2 (by decide) (hU hts u_117) (fun _ h9 => h9) rfl dPC_grow_26 ?_
        refine lv_iload_n hx hb dPC_grow_29 rfl (lv_at hl 1 rfl) ?_
        refine lv_iload_n hx hb dPC_grow_30 rfl (lv_at hl 0 rfl) ?_
        refine qn_iadd hx hb dPC_grow_31 ?_
        refine lv_iload_n hx hb dPC_grow_32 rfl (lv_at hl 0 rfl) ?_
        have jn_41 : W p l e (headSpec wsPC_grow (rmD 3)).room s m [.ref pi].toArray below meth c H locs 0 0 Q (F0 m 41 ls [.int (nI (m_b13 i)), .int (nI (C * Rz + i)), .ref ab]) := by
          refine qi_ast hx hb hK hP hD hS 1 0 rfl rfl (k := C * Rz + i) (v := m_b13 i) (by omega) (by omega) dPC_grow_41 (fun H locs hP hD hS => ?_)
          have hP : va_P (dC, dI) vwCl [(pi, .inr (3, [.int (nI L), .int (nI Rz), .ref ab, .ref ap, .ref aw, .ref ah, .ref aq, .int (nI (C + 1))])), (ab, .inl (cI, ns, .inl (fun j => nI ((va_up (m_put m_b13 (C * Rz) i bd) (C * Rz + i) (m_b13 i)) j)))), (ap, .inl (cI, ns, .inl (fun j => nI ((m_put m_one (C * Rz) i pr) j)))), (aw, .inl (cI, ns, .inl (fun j => nI ((m_put m_one (C * Rz) i wd) j)))), (ah, .inl (cI, ns, .inl (fun j => nI ((m_put m_one (C * Rz) i ht) j)))), (aq, .inl (cI, ns + 1, .inl (fun j => nI (sta j))))] H := hP
          have hD : va_D A [(pi, .inr (3, [.int (nI L), .int (nI Rz), .ref ab, .ref ap, .ref aw, .ref ah, .ref aq, .int (nI (C + 1))])), (ab, .inl (cI, ns, .inl (fun j => nI ((va_up (m_put m_b13 (C * Rz) i bd) (C * Rz + i) (m_b13 i)) j)))), (ap, .inl (cI, ns, .inl (fun j => nI ((m_put m_one (C * Rz) i pr) j)))), (aw, .inl (cI, ns, .inl (fun j => nI ((m_put m_one (C * Rz) i wd) j)))), (ah, .inl (cI, ns, .inl (fun j => nI ((m_put m_one (C * Rz) i ht) j)))), (aq, .inl (cI, ns + 1, .inl (fun j => nI (sta j))))] := hD
          refine lv_aload_n hx hb dPC_grow_42 rfl (lv_at hl 2 rfl) ?_
          refine va_get (D := (dC, dI)) (ci := 3) (v := .ref ap) (C := "PacketRows$Picture") (T := TPC) (N := 8) hx hb hts inPC hown hK hP 0 rfl rfl 3 (by decide) (hU hts u_120) (fun _ h9 => h9) rfl dPC_grow_43 ?_
          refine lv_iload_n hx hb dPC_grow_46 rfl (lv_at hl 1 rfl) ?_
          refine lv_iload_n hx hb dPC_grow_47 rfl (lv_at hl 0 rfl) ?_
          refine qn_iadd hx hb dPC_grow_48 ?_
          refine lv_iconst (v := nI 1) hx hb dPC_grow_49 (by decide +kernel) ?_
          refine qn_eq (y := nI (m_one i)) rfl ?_
          refine qi_ast hx hb hK hP hD hS 2 0 rfl rfl (k := C * Rz + i) (v := m_one i) (by omega) (by omega) dPC_grow_50 (fun H locs hP hD hS => ?_)
          have hP : va_P (dC, dI) vwCl [(pi, .inr (3, [.int (nI L), .int (nI Rz), .ref ab, .ref ap, .ref aw, .ref ah, .ref aq, .int (nI (C + 1))])), (ab, .inl (cI, ns, .inl (fun j => nI ((va_up (m_put m_b13 (C * Rz) i bd) (C * Rz + i) (m_b13 i)) j)))), (ap, .inl (cI, ns, .inl (fun j => nI ((va_up (m_put m_one (C * Rz) i pr) (C * Rz + i) (m_one i)) j)))), (aw, .inl (cI, ns, .inl (fun j => nI ((m_put m_one (C * Rz) i wd) j)))), (ah, .inl (cI, ns, .inl (fun j => nI ((m_put m_one (C * Rz) i ht) j)))), (aq, .inl (cI, ns + 1, .inl (fun j => nI (sta j))))] H := hP
          have hD : va_D A [(pi, .inr (3, [.int (nI L), .int (nI Rz), .ref ab, .ref ap, .ref aw, .ref ah, .ref aq, .int (nI (C + 1))])), (ab, .inl (cI, ns, .inl (fun j => nI ((va_up (m_put m_b13 (C * Rz) i bd) (C * Rz + i) (m_b13 i)) j)))), (ap, .inl (cI, ns, .inl (fun j => nI ((va_up (m_put m_one (C * Rz) i pr) (C * Rz + i) (m_one i)) j)))), (aw, .inl (cI, ns, .inl (fun j => nI ((m_put m_one (C * Rz) i wd) j)))), (ah, .inl (cI, ns, .inl (fun j => nI ((m_put m_one (C * Rz) i ht) j)))), (aq, .inl (cI, ns + 1, .inl (fun j => nI (sta j))))] := hD
          refine lv_aload_n hx hb dPC_grow_51 rfl (lv_at hl 2 rfl) ?_
          refine va_get (D := (dC, dI)) (ci := 3) (v := .ref aw) (C := "PacketRows$Picture") (T := TPC) (N := 8) hx hb hts inPC hown hK hP 0 rfl rfl 4 (by decide) (hU hts u_123) (fun _ h9 => h9) rfl dPC_grow_52 ?_
          refine lv_iload_n hx hb dPC_grow_55 rfl (lv_at hl 1 rfl) ?_
          refine lv_iload_n hx hb dPC_grow_56 rfl (lv_at hl 0 rfl) ?_
          refine qn_iadd hx hb dPC_grow_57 ?_
          refine lv_iconst (v := nI 1) hx hb dPC_grow_58 (by decide +kernel) ?_
          refine qn_eq (y := nI (m_one i)) rfl ?_
          refine qi_ast hx hb hK hP hD hS 3 0 rfl rfl (k := C * Rz + i) (v := m_one i) (by omega) (by omega) dPC_grow_59 (fun H locs hP hD hS => ?_)
          have hP : va_P (dC, dI) vwCl [(pi, .inr (3, [.int (nI L), .int (nI Rz), .ref ab, .ref ap, .ref aw, .ref ah, .ref aq, .int (nI (C + 1))])), (ab, .inl (cI, ns, .inl (fun j => nI ((va_up (m_put m_b13 (C * Rz) i bd) (C * Rz + i) (m_b13 i)) j)))), (ap, .inl (cI, ns, .inl (fun j => nI ((va_up (m_put m_one (C * Rz) i pr) (C * Rz + i) (m_one i)) j)))), (aw, .inl (cI, ns, .inl (fun j => nI ((va_up (m_put m_one (C * Rz) i wd) (C * Rz + i) (m_one i)) j)))), (ah, .inl (cI, ns, .inl (fun j => nI ((m_put m_one (C * Rz) i ht) j)))), (aq, .inl (cI, ns + 1, .inl (fun j => nI (sta j))))] H := hP
          have hD : va_D A [(pi, .inr (3, [.int (nI L), .int (nI Rz), .ref ab, .ref ap, .ref aw, .ref ah, .ref aq, .int (nI (C + 1))])), (ab, .inl (cI, ns, .inl (fun j => nI ((va_up (m_put m_b13 (C * Rz) i bd) (C * Rz + i) (m_b13 i)) j)))), (ap, .inl (cI, ns, .inl (fun j => nI ((va_up (m_put m_one (C * Rz) i pr) (C * Rz + i) (m_one i)) j)))), (aw, .inl (cI, ns, .inl (fun j => nI ((va_up (m_put m_one (C * Rz) i wd) (C * Rz + i) (m_one i)) j)))), (ah, .inl (cI, ns, .inl (fun j => nI ((m_put m_one (C * Rz) i ht) j)))), (aq, .inl (cI, ns + 1, .inl (fun j => nI (sta j))))] := hD
          refine lv_aload_n hx hb dPC_grow_60 rfl (lv_at hl 2 rfl) ?_
          refine va_get (D := (dC, dI)) (ci := 3) (v := .ref ah) (C := "PacketRows$Picture") (T := TPC) (N := 8) hx hb hts inPC hown hK hP 0 rfl rfl 5 (by decide) (hU hts u_125) (fun _ h9 => h9) rfl dPC_grow_61 ?_
          refine lv_iload_n hx hb dPC_grow_64 rfl (lv_at hl 1 rfl) ?_
          refine lv_iload_n hx hb dPC_grow_65 rfl (lv_at hl 0 rfl) ?_
          refine qn_iadd hx hb dPC_grow_66 ?_
          refine lv_iconst (v := nI 1) hx hb dPC_grow_67 (by decide +kernel) ?_
          refine qn_eq (y := nI (m_one i)) rfl ?_
          refine qi_ast hx hb hK hP hD hS 4 0 rfl rfl (k := C * Rz + i) (v := m_one i) (by omega) (by omega) dPC_grow_68 (fun H locs hP hD hS => ?_)
          have hP : va_P (dC, dI) vwCl [(pi, .inr (3, [.int (nI L), .int (nI Rz), .ref ab, .ref ap, .ref aw, .ref ah, .ref aq, .int (nI (C + 1))])), (ab, .inl (cI, ns, .inl (fun j => nI ((va_up (m_put m_b13 (C * Rz) i bd) (C * Rz + i) (m_b13 i)) j)))), (ap, .inl (cI, ns, .inl (fun j => nI ((va_up (m_put m_one (C * Rz) i pr) (C * Rz + i) (m_one i)) j)))), (aw, .inl (cI, ns, .inl (fun j => nI ((va_up (m_put m_one (C * Rz) i wd) (C * Rz + i) (m_one i)) j)))), (ah, .inl (cI, ns, .inl (fun j => nI ((va_up (m_put m_one (C * Rz) i ht) (C * Rz + i) (m_one i)) j)))), (aq, .inl (cI, ns + 1, .inl (fun j => nI (sta j))))] H := hP
          have hD : va_D A [(pi, .inr (3, [.int (nI L), .int (nI Rz), .ref ab, .ref ap, .ref aw, .ref ah, .ref aq, .int (nI (C + 1))])), (ab, .inl (cI, ns, .inl (fun j => nI ((va_up (m_put m_b13 (C * Rz) i bd) (C * Rz + i) (m_b13 i)) j)))), (ap, .inl (cI, ns, .inl (fun j => nI ((va_up (m_put m_one (C * Rz) i pr) (C * Rz + i) (m_one i)) j)))), (aw, .inl (cI, ns, .inl (fun j => nI ((va_up (m_put m_one (C * Rz) i wd) (C * Rz + i) (m_one i)) j)))), (ah, .inl (cI, ns, .inl (fun j => nI ((va_up (m_put m_one (C * Rz) i ht) (C * Rz + i) (m_one i)) j)))), (aq, .inl (cI, ns + 1, .inl (fun j => nI (sta j))))] := hD
          refine lv_iinc (v := nI (i + 1)) (lv' := [(2, .int (nI (i + 1))), (1, .int (nI (C * Rz))), (0, .ref pi)]) hx hb dPC_grow_69 hl (k := 0) rfl (nI_inc _) (by decide) rfl (fun ls hl => ?_)
          refine lv_goto (tgt := 17) hx hb dPC_grow_72 (by decide) ?_
          exact ih_17 (i + 1) _ _ _ (by omega) (by omega) (by rw [m_put_s (v := m_b13), m_put_s (v := m_one), m_put_s (v := m_one), m_put_s (v := m_one)] at hP; exact hP) (by rw [m_put_s (v := m_b13), m_put_s (v := m_one), m_put_s (v := m_one), m_put_s (v := m_one)] at hD; exact hD) hS (lv_sub hl [0, 1, 2] rfl)
        refine qn_ine (tgt := 40) hx hb dPC_grow_33 (by decide) (by omega) (fun c_33 => ?_) (fun c_33 => ?_)
        · refine lv_iconst (v := nI 3) hx hb dPC_grow_40 (by decide +kernel) ?_
          exact qn_eq (by unfold m_b13; rw [if_neg (by omega)]) jn_41
        · refine lv_iconst (v := nI 1) hx hb dPC_grow_36 (by decide +kernel) ?_
          refine lv_goto (tgt := 41) hx hb dPC_grow_37 (by decide) ?_
          exact qn_eq (by rw [c_33]; rfl) jn_41
  exact lp_17 _ 0 _ _ _ (Nat.lt_succ_self _) (Nat.zero_le _) (by rw [m_put_0, m_put_0, m_put_0, m_put_0]; exact hP) (by rw [m_put_0, m_put_0, m_put_0, m_put_0]; exact hD) hS (lv_sub hl [0, 1, 2] rfl)
set_option maxHeartbeats 4000000 in
set_option maxRecDepth 100000 in
theorem k_Picture_init (l : Launch) (dC : Nat → ClassId) (dI : Nat → Nat → Nat) (cI cZ cL : ClassId) (pi L lv : Nat) (hlv : lv ≤ 3) :
    q_CN l (dC, dI) vwCl (tyL cI cZ cL) yPC_init wsPC_init (rmN 4 5 61) [.ref pi, .int (nI L), .int (nI lv)] [(pi, .inr (3, [.int (nI 0), .int (nI 0), .null, .null, .null, .null, .null, .int (nI 0)]))] 5 61 (fun (u : Nat × Nat × Nat × Nat × Nat) => True) (fun (u : Nat × Nat × Nat × Nat × Nat) => [(pi, .inr (3, [.int (nI L), .int (nI (lv + 1)), .ref u.1, .ref u.2.1, .ref u.2.2.1, .ref u.2.2.2.1, .ref u.2.2.2.2, .int (nI 1)])), (u.1, .inl (cI, 3 * (lv + 1), .inl (fun j => nI ((m_put m_b13 0 (lv + 1) m_z) j)))), (u.2.1, .inl (cI, 3 * (lv + 1), .inl (fun j => nI ((m_put m_one 0 (lv + 1) m_z) j)))), (u.2.2.1, .inl (cI, 3 * (lv + 1), .inl (fun j => nI ((m_put m_one 0 (lv + 1) m_z) j)))), (u.2.2.2.1, .inl (cI, 3 * (lv + 1), .inl (fun j => nI ((m_put m_one 0 (lv + 1) m_z) j)))), (u.2.2.2.2, .inl (cI, 3 * (lv + 1) + 1, .inl (fun j => nI ((m_starts (m_put m_one 0 (lv + 1) m_z) (m_put m_b13 0 (lv + 1) m_z) (m_put m_one 0 (lv + 1) m_z) (m_put m_one 0 (lv + 1) m_z) m_z (lv + 1)) j))))]) := by
  refine q_entN "PacketRows$Picture" (by decide) rfl ⟨rfl, rfl⟩ (Nat.le_of_ble_eq_true rfl) ?_
  intro p e s m below meth c ls Q A hx hb hml hts hown hin hP hD hK hZ hO hA hS hl hret
  have hl : lv_has ls 4 [(0, .ref pi), (1, .int (nI L)), (2, .int (nI lv))] := hl
  refine lv_aload_n hx hb dPC_init_0 rfl (lv_at hl 0 rfl) ?_
  refine W.objInit hx hb hown (hU hts u_90) (hU hts u_74) (hU hts u_75) rfl (by rw [hml]; exact hl.1) rfl dPC_init_1 (Nat.le_of_ble_eq_true rfl) (Nat.le_of_ble_eq_true rfl) ?_
  refine W.eq (g2 := F0 m 4 ls []) rfl ?_
  refine lv_aload_n hx hb dPC_init_4 rfl (lv_at hl 0 rfl) ?_
  refine lv_iload_n hx hb dPC_init_5 rfl (lv_at hl 1 rfl) ?_
  refine va_putF (D := (dC, dI)) (ci := 3) (v := .int (nI L)) (ty := .int) (C := "PacketRows$Picture") (T := TPC) (N := 8) hx hb hts inPC tyPC tyPC_ok nmPC hown hK hP hD hS 0 rfl rfl 0 (by decide) (hU hts u_111) (fun _ h9 => h9) rfl hin rfl (by decide +kernel) rfl rfl (Nat.le_of_ble_eq_true rfl) dPC_init_6 (fun H locs hP hD hS => ?_)
  have hP : va_P (dC, dI) vwCl [(pi, .inr (3, [.int (nI L), .int (nI 0), .null, .null, .null, .null, .null, .int (nI 0)]))] H := hP
  have hD : va_D A [(pi, .inr (3, [.int (nI L), .int (nI 0), .null, .null, .null, .null, .null, .int (nI 0)]))] := hD
  refine lv_aload_n hx hb dPC_init_9 rfl (lv_at hl 0 rfl) ?_
  refine lv_iload_n hx hb dPC_init_10 rfl (lv_at hl 2 rfl) ?_
  refine lv_iconst (v := nI 1) hx hb dPC_init_11 (by decide +kernel) ?_
  refine qn_iadd hx hb dPC_init_12 ?_
  refine va_putF (D := (dC, dI)) (ci := 3) (v := .int (nI (lv + 1))) (ty := .int) (C := "PacketRows$Picture") (T := TPC) (N := 8) hx hb hts inPC tyPC tyPC_ok nmPC hown hK hP hD hS 0 rfl rfl 1 (by decide) (hU hts u_114) (fun _ h9 => h9) rfl hin rfl (by decide +kernel) rfl rfl (Nat.le_of_ble_eq_true rfl) dPC_init_13 (fun H locs hP hD hS => ?_)
  have hP : va_P (dC, dI) vwCl [(pi, .inr (3, [.int (nI L), .int (nI (lv + 1)), .null, .null, .null, .null, .null, .int (nI 0)]))] H := hP
  have hD : va_D A [(pi, .inr (3, [.int (nI L), .int (nI (lv + 1)), .null, .null, .null, .null, .null, .int (nI 0)]))] := hD
  refine lv_iconst (v := nI 3) hx hb dPC_init_16 (by decide +kernel) ?_
  refine lv_aload_n hx hb dPC_init_17 rfl (lv_at hl 0 rfl) ?_
  refine va_get (D := (dC, dI)) (ci := 3) (v := .int (nI (lv + 1))) (C := "PacketRows$Picture") (T := TPC) (N := 8) hx hb hts inPC hown hK hP 0 rfl rfl 1 (by decide) (hU hts u_114) (fun _ h9 => h9) rfl dPC_init_18 ?_
  refine qn_imul hx hb dPC_init_21 ?_
  refine lv_istore_n (lv' := [(3, .int (nI (3 * (lv + 1)))), (0, .ref pi), (1, .int (nI L)), (2, .int (nI lv))]) hx hb dPC_init_22 rfl hl (by decide) rfl (fun ls hl => ?_)
  refine lv_aload_n hx hb dPC_init_23 rfl (lv_at hl 1 rfl) ?_
  refine lv_iload_n hx hb dPC_init_24 rfl (lv_at hl 0 rfl) ?_
  refine q_newai hx hb (hU hts u_150) hK hP hD hS hA (k := 3 * (lv + 1)) (by omega) (Nat.le_of_ble_eq_true rfl) (Nat.le_trans (Nat.add_le_add_left (show 3 * (lv + 1) ≤ 12 by omega) _) (Nat.le_of_ble_eq_true rfl)) dPC_init_25 (fun q_25 H hP hD hS => ?_)
  refine W.widen (k := 1) (n := 12) (Nat.le_of_ble_eq_true rfl) (Nat.add_le_add_left (show 3 * (lv + 1) ≤ 12 by omega) 0) ?_
  have hP : va_P (dC, dI) vwCl [(pi, .inr (3, [.int (nI L), .int (nI (lv + 1)), .null, .null, .null, .null, .null, .int (nI 0)])), (q_25, .inl (cI, 3 * (lv + 1), .inl (fun j => nI (m_z j))))] H := hP
  have hD : va_D A [(pi, .inr (3, [.int (nI L), .int (nI (lv + 1)), .null, .null, .null, .null, .null, .int (nI 0)])), (q_25, .inl (cI, 3 * (lv + 1), .inl (fun j => nI (m_z j))))] := hD
  refine va_putF (D := (dC, dI)) (ci := 3) (v := .ref q_25) (ty := (.array .int)) (C := "PacketRows$Picture") (T := TPC) (N := 8) hx hb hts inPC tyPC tyPC_ok nmPC hown hK hP hD hS 0 rfl rfl 2 (by decide) (hU hts u_117) (fun _ h9 => h9) rfl hin rfl (by decide +kernel) rfl rfl (Nat.le_of_ble_eq_true rfl) dPC_init_27 (fun H locs hP hD hS => ?_)
  have hP : va_P (dC, dI) vwCl [(pi, .inr (3, [.int (nI L), .int (nI (lv + 1)), .ref q_25, .null, .null, .null, .null, .int (nI 0)])), (q_25, .inl (cI, 3 * (lv + 1), .inl (fun j => nI (m_z j))))] H := hP
  have hD : va_D A [(pi, .inr (3, [.int (nI L), .int (nI (lv + 1)), .ref q_25, .null, .null, .null, .null, .int (nI 0)])), (q_25, .inl (cI, 3 * (lv + 1), .inl (fun j => nI (m_z j))))] := hD
  refine lv_aload_n hx hb dPC_init_30 rfl (lv_at hl 1 rfl) ?_
  refine lv_iload_n hx hb dPC_init_31 rfl (lv_at hl 0 rfl) ?_
  refine q_newai hx hb (hU hts u_150) hK hP hD hS hA (k := 3 * (lv + 1)) (by omega) (Nat.le_of_ble_eq_true rfl) (Nat.le_trans (Nat.add_le_add_left (show 3 * (lv + 1) ≤ 12 by omega) _) (Nat.le_of_ble_eq_true rfl)) dPC_init_32 (fun q_32 H hP hD hS => ?_)
  refine W.widen (k := 2) (n := 24) (Nat.le_of_ble_eq_true rfl) (Nat.add_le_add_left (show 3 * (lv + 1) ≤ 12 by omega) 12) ?_
  have hP : va_P (dC, dI) vwCl [(pi, .inr (3, [.int (nI L), .int (nI (lv + 1)), .ref q_25, .null, .null, .null, .null, .int (nI 0)])), (q_25, .inl (cI, 3 * (lv + 1), .inl (fun j => nI (m_z j)))), (q_32, .inl (cI, 3 * (lv + 1), .inl (fun j => nI (m_z j))))] H := hP
  have hD : va_D A [(pi, .inr (3, [.int (nI L), .int (nI (lv + 1)), .ref q_25, .null, .null, .null, .null, .int (nI 0)])), (q_25, .inl (cI, 3 * (lv + 1), .inl (fun j => nI (m_z j)))), (q_32, .inl (cI, 3 * (lv + 1), .inl (fun j => nI (m_z j))))] := hD
  refine va_putF (D := (dC, dI)) (ci := 3) (v := .ref q_32) (ty := (.array .int)) (C := "PacketRows$Picture") (T := TPC) (N := 8) hx hb hts inPC tyPC tyPC_ok nmPC hown hK hP hD hS 0 rfl rfl 3 (by decide) (hU hts u_120) (fun _ h9 => h9) rfl hin rfl (by decide +kernel) rfl rfl (Nat.le_of_ble_eq_true rfl) dPC_init_34 (fun H locs hP hD hS => ?_)
  have hP : va_P (dC, dI) vwCl [(pi, .inr (3, [.int (nI L), .int (nI (lv + 1)), .ref q_25, .ref q_32, .null, .null, .null, .int (nI 0)])), (q_25, .inl (cI, 3 * (lv + 1), .inl (fun j => nI (m_z j)))), (q_32, .inl (cI, 3 * (lv + 1), .inl (fun j => nI (m_z j))))] H := hP
  have hD : va_D A [(pi, .inr (3, [.int (nI L), .int (nI (lv + 1)), .ref q_25, .ref q_32, .null, .null, .null, .int (nI 0)])), (q_25, .inl (cI, 3 * (lv + 1), .inl (fun j => nI (m_z j)))), (q_32, .inl (cI, 3 * (lv + 1), .inl (fun j => nI (m_z j))))] := hD
  refine lv_aload_n hx hb dPC_init_37 rfl (lv_at hl 1 rfl) ?_
  refine lv_iload_n hx hb dPC_init_38 rfl (lv_at hl 0 rfl) ?_
  refine q_newai hx hb (hU hts u_150) hK hP hD hS hA (k := 3 * (lv + 1)) (by omega) (Nat.le_of_ble_eq_true rfl) (Nat.le_trans (Nat.add_le_add_left (show 3 * (lv + 1) ≤ 12 by omega) _) (Nat.le_of_ble_eq_true rfl)) dPC_init_39 (fun q_39 H hP hD hS => ?_)
  refine W.widen (k := 3) (n := 36) (Nat.le_of_ble_eq_true rfl) (Nat.add_le_add_left (show 3 * (lv + 1) ≤ 12 by omega) 24) ?_
  have hP : va_P (dC, dI) vwCl [(pi, .inr (3, [.int (nI L), .int (nI (lv + 1)), .ref q_25, .ref q_32, .null, .null, .null, .int (nI 0)])), (q_25, .inl (cI, 3 * (lv + 1), .inl (fun j => nI (m_z j)))), (q_32, .inl (cI, 3 * (lv + 1), .inl (fun j => nI (m_z j)))), (q_39, .inl (cI, 3 * (lv + 1), .inl (fun j => nI (m_z j))))] H := hP
  have hD : va_D A [(pi, .inr (3, [.int (nI L), .int (nI (lv + 1)), .ref q_25, .ref q_32, .null, .null, .null, .int (nI 0)])), (q_25, .inl (cI, 3 * (lv + 1), .inl (fun j => nI (m_z j)))), (q_32, .inl (cI, 3 * (lv + 1), .inl (fun j => nI (m_z j)))), (q_39, .inl (cI, 3 * (lv + 1), .inl (fun j => nI (m_z j))))] := hD
  refine va_putF (D := (dC, dI)) (ci := 3) (v := .ref q_39) (ty := (.array .int)) (C := "PacketRows$Picture") (T := TPC) (N := 8) hx hb hts inPC tyPC tyPC_ok nmPC hown hK hP hD hS 0 rfl rfl 4 (by decide) (hU hts u_123) (fun _ h9 => h9) rfl hin rfl (by decide +kernel) rfl rfl (Nat.le_of_ble_eq_true rfl) dPC_init_41 (fun H locs hP hD hS => ?_)
  have hP : va_P (dC, dI) vwCl [(pi, .inr (3, [.int (nI L), .int (nI (lv + 1)), .ref q_25, .ref q_32, .ref q_39, .null, .null, .int (nI 0)])), (q_25, .inl (cI, 3 * (lv + 1), .inl (fun j => nI (m_z j)))), (q_32, .inl (cI, 3 * (lv + 1), .inl (fun j => nI (m_z j)))), (q_39, .inl (cI, 3 * (lv + 1), .inl (fun j => nI (m_z j))))] H := hP
  have hD : va_D A [(pi, .inr (3, [.int (nI L), .int (nI (lv + 1)), .ref q_25, .ref q_32, .ref q_39, .null, .null, .int (nI 0)])), (q_25, .inl (cI, 3 * (lv + 1), .inl (fun j => nI (m_z j)))), (q_32, .inl (cI, 3 * (lv + 1), .inl (fun j => nI (m_z j)))), (q_39, .inl (cI, 3 * (lv + 1), .inl (fun j => nI (m_z j))))] := hD
  refine lv_aload_n hx hb dPC_init_44 rfl (lv_at hl 1 rfl) ?_
  refine lv_iload_n hx hb dPC_init_45 rfl (lv_at hl 0 rfl) ?_
  refine q_newai hx hb (hU hts u_150) hK hP hD hS hA (k := 3 * (lv + 1)) (by omega) (Nat.le_of_ble_eq_true rfl) (Nat.le_trans (Nat.add_le_add_left (show 3 * (lv + 1) ≤ 12 by omega) _) (Nat.le_of_ble_eq_true rfl)) dPC_init_46 (fun q_46 H hP hD hS => ?_)
  refine W.widen (k := 4) (n := 48) (Nat.le_of_ble_eq_true rfl) (Nat.add_le_add_left (show 3 * (lv + 1) ≤ 12 by omega) 36) ?_
  have hP : va_P (dC, dI) vwCl [(pi, .inr (3, [.int (nI L), .int (nI (lv + 1)), .ref q_25, .ref q_32, .ref q_39, .null, .null, .int (nI 0)])), (q_25, .inl (cI, 3 * (lv + 1), .inl (fun j => nI (m_z j)))), (q_32, .inl (cI, 3 * (lv + 1), .inl (fun j => nI (m_z j)))), (q_39, .inl (cI, 3 * (lv + 1), .inl (fun j => nI (m_z j)))), (q_46, .inl (cI, 3 * (lv + 1), .inl (fun j => nI (m_z j))))] H := hP
  have hD : va_D A [(pi, .inr (3, [.int (nI L), .int (nI (lv + 1)), .ref q_25, .ref q_32, .ref q_39, .null, .null, .int (nI 0)])), (q_25, .inl (cI, 3 * (lv + 1), .inl (fun j => nI (m_z j)))), (q_32, .inl (cI, 3 * (lv + 1), .inl (fun j => nI (m_z j)))), (q_39, .inl (cI, 3 * (lv + 1), .inl (fun j => nI (m_z j)))), (q_46, .inl (cI, 3 * (lv + 1), .inl (fun j => nI (m_z j))))] := hD
  refine va_putF (D := (dC, dI)) (ci := 3) (v := .ref q_46) (ty := (.array .int)) (C := "PacketRows$Picture") (T := TPC) (N := 8) hx hb hts inPC tyPC tyPC_ok nmPC hown hK hP hD hS 0 rfl rfl 5 (by decide) (hU hts u_125) (fun _ h9 => h9) rfl hin rfl (by decide +kernel) rfl rfl (Nat.le_of_ble_eq_true rfl) dPC_init_48 (fun H locs hP hD hS => ?_)
  have hP : va_P (dC, dI) vwCl [(pi, .inr (3, [.int (nI L), .int (nI (lv + 1)), .ref q_25, .ref q_32, .ref q_39, .ref q_46, .null, .int (nI 0)])), (q_25, .inl (cI, 3 * (lv + 1), .inl (fun j => nI (m_z j)))), (q_32, .inl (cI, 3 * (lv + 1), .inl (fun j => nI (m_z j)))), (q_39, .inl (cI, 3 * (lv + 1), .inl (fun j => nI (m_z j)))), (q_46, .inl (cI, 3 * (lv + 1), .inl (fun j => nI (m_z j))))] H := hP
  have hD : va_D A [(pi, .inr (3, [.int (nI L), .int (nI (lv + 1)), .ref q_25, .ref q_32, .ref q_39, .ref q_46, .null, .int (nI 0)])), (q_25, .inl (cI, 3 * (lv + 1), .inl (fun j => nI (m_z j)))), (q_32, .inl (cI, 3 * (lv + 1), .inl (fun j => nI (m_z j)))), (q_39, .inl (cI, 3 * (lv + 1), .inl (fun j => nI (m_z j)))), (q_46, .inl (cI, 3 * (lv + 1), .inl (fun j => nI (m_z j))))] := hD
  refine lv_aload_n hx hb dPC_init_51 rfl (lv_at hl 1 rfl) ?_
  refine lv_iload_n hx hb dPC_init_52 rfl (lv_at hl 0 rfl) ?_
  refine lv_iconst (v := nI 1) hx hb dPC_init_53 (by decide +kernel) ?_
  refine qn_iadd hx hb dPC_init_54 ?_
  refine q_newai hx hb (hU hts u_150) hK hP hD hS hA (k := 3 * (lv + 1) + 1) (by omega) (Nat.le_of_ble_eq_true rfl) (Nat.le_trans (Nat.add_le_add_left (show 3 * (lv + 1) + 1 ≤ 13 by omega) _) (Nat.le_of_ble_eq_true rfl)) dPC_init_55 (fun q_55 H hP hD hS => ?_)
  refine W.widen (k := 5) (n := 61) (Nat.le_of_ble_eq_true rfl) (Nat.add_le_add_left (show 3 * (lv + 1) + 1 ≤ 13 by omega) 48) ?_
  have hP : va_P (dC, dI) vwCl [(pi, .inr (3, [.int (nI L), .int (nI (lv + 1)), .ref q_25, .ref q_32, .ref q_39, .ref q_46, .null, .int (nI 0)])), (q_25, .inl (cI, 3 * (lv + 1), .inl (fun j => nI (m_z j)))), (q_32, .inl (cI, 3 * (lv + 1), .inl (fun j => nI (m_z j)))), (q_39, .inl (cI, 3 * (lv + 1), .inl (fun j => nI (m_z j)))), (q_46, .inl (cI, 3 * (lv + 1), .inl (fun j => nI (m_z j)))), (q_55, .inl (cI, 3 * (lv + 1) + 1, .inl (fun j => nI (m_z j))))] H := hP
  have hD : va_D A [(pi, .inr (3, [.int (nI L), .int (nI (lv + 1)), .ref q_25, .ref q_32, .ref q_39, .ref q_46, .null, .int (nI 0)])), (q_25, .inl (cI, 3 * (lv + 1), .inl (fun j => nI (m_z j)))), (q_32, .inl (cI, 3 * (lv + 1), .inl (fun j => nI (m_z j)))), (q_39, .inl (cI, 3 * (lv + 1), .inl (fun j => nI (m_z j)))), (q_46, .inl (cI, 3 * (lv + 1), .inl (fun j => nI (m_z j)))), (q_55, .inl (cI, 3 * (lv + 1) + 1, .inl (fun j => nI (m_z j))))] := hD
  refine va_putF (D := (dC, dI)) (ci := 3) (v := .ref q_55) (ty := (.array .int)) (C := "PacketRows$Picture") (T := TPC) (N := 8) hx hb hts inPC tyPC tyPC_ok nmPC hown hK hP hD hS 0 rfl rfl 6 (by decide) (hU hts u_127) (fun _ h9 => h9) rfl hin rfl (by decide +kernel) rfl rfl (Nat.le_of_ble_eq_true rfl) dPC_init_57 (fun H locs hP hD hS => ?_)
  have hP : va_P (dC, dI) vwCl [(pi, .inr (3, [.int (nI L), .int (nI (lv + 1)), .ref q_25, .ref q_32, .ref q_39, .ref q_46, .ref q_55, .int (nI 0)])), (q_25, .inl (cI, 3 * (lv + 1), .inl (fun j => nI (m_z j)))), (q_32, .inl (cI, 3 * (lv + 1), .inl (fun j => nI (m_z j)))), (q_39, .inl (cI, 3 * (lv + 1), .inl (fun j => nI (m_z j)))), (q_46, .inl (cI, 3 * (lv + 1), .inl (fun j => nI (m_z j)))), (q_55, .inl (cI, 3 * (lv + 1) + 1, .inl (fun j => nI (m_z j))))] H := hP
  have hD : va_D A [(pi, .inr (3, [.int (nI L), .int (nI (lv + 1)), .ref q_25, .ref q_32, .ref q_39, .ref q_46, .ref q_55, .int (nI 0)])), (q_25, .inl (cI, 3 * (lv + 1), .inl (fun j => nI (m_z j)))), (q_32, .inl (cI, 3 * (lv + 1), .inl (fun j => nI (m_z j)))), (q_39, .inl (cI, 3 * (lv + 1), .inl (fun j => nI (m_z j)))), (q_46, .inl (cI, 3 * (lv + 1), .inl (fun j => nI (m_z j)))), (q_55, .inl (cI, 3 * (lv + 1) + 1, .inl (fun j => nI (m_z j))))] := hD
  refine lv_aload_n hx hb dPC_init_60 rfl (lv_at hl 1 rfl) ?_
  refine q_callv (va_runV (As := []) (rest := []) ⟨hx, hb, hml, hown, hts⟩ (k_Picture_grow l dC dI cI cZ cL pi q_25 q_32 q_39 q_46 q_55 L (lv + 1) 0 (3 * (lv + 1)) m_z m_z m_z m_z m_z (by omega) (by omega) rfl H.size) (cwV 0 hts (gV u_91 u_92 u_93 u_41 u_94) rfl rfl rfl (by decide +kernel) ⟨Nat.le_of_ble_eq_true rfl, Nat.le_of_ble_eq_true rfl⟩) (q_preMV hK hZ hO hS hA hP hD [0, 1, 2, 3, 4, 5] rfl (by decide) rfl rfl) rfl rfl hl.1 rfl (lv_room (Nat.le_of_ble_eq_true rfl)) dPC_init_61 ⟨Nat.le_of_ble_eq_true rfl, Nat.le_of_ble_eq_true rfl⟩) hP hD hS hA [0, 1, 2, 3, 4, 5] rfl (by decide) (fun _ => by simp only [List.map_cons, List.map_nil]) (fun u_ H locs hpost hP hD hS => ?_)
  have hP : va_P (dC, dI) vwCl [(pi, .inr (3, [.int (nI L), .int (nI (lv + 1)), .ref q_25, .ref q_32, .ref q_39, .ref q_46, .ref q_55, .int (nI (0 + 1))])), (q_25, .inl (cI, 3 * (lv + 1), .inl (fun j => nI ((m_put m_b13 (0 * (lv + 1)) (lv + 1) m_z) j)))), (q_32, .inl (cI, 3 * (lv + 1), .inl (fun j => nI ((m_put m_one (0 * (lv + 1)) (lv + 1) m_z) j)))), (q_39, .inl (cI, 3 * (lv + 1), .inl (fun j => nI ((m_put m_one (0 * (lv + 1)) (lv + 1) m_z) j)))), (q_46, .inl (cI, 3 * (lv + 1), .inl (fun j => nI ((m_put m_one (0 * (lv + 1)) (lv + 1) m_z) j)))), (q_55, .inl (cI, (3 * (lv + 1)) + 1, .inl (fun j => nI ((m_starts (m_put m_one (0 * (lv + 1)) (lv + 1) m_z) (m_put m_b13 (0 * (lv + 1)) (lv + 1) m_z) (m_put m_one (0 * (lv + 1)) (lv + 1) m_z) (m_put m_one (0 * (lv + 1)) (lv + 1) m_z) m_z ((0 + 1) * (lv + 1))) j))))] H := hP
  have hD : va_D A [(pi, .inr (3, [.int (nI L), .int (nI (lv + 1)), .ref q_25, .ref q_32, .ref q_39, .ref q_46, .ref q_55, .int (nI (0 + 1))])), (q_25, .inl (cI, 3 * (lv + 1), .inl (fun j => nI ((m_put m_b13 (0 * (lv + 1)) (lv + 1) m_z) j)))), (q_32, .inl (cI, 3 * (lv + 1), .inl (fun j => nI ((m_put m_one (0 * (lv + 1)) (lv + 1) m_z) j)))), (q_39, .inl (cI, 3 * (lv + 1), .inl (fun j => nI ((m_put m_one (0 * (lv + 1)) (lv + 1) m_z) j)))), (q_46, .inl (cI, 3 * (lv + 1), .inl (fun j => nI ((m_put m_one (0 * (lv + 1)) (lv + 1) m_z) j)))), (q_55, .inl (cI, (3 * (lv + 1)) + 1, .inl (fun j => nI ((m_starts (m_put m_one (0 * (lv + 1)) (lv + 1) m_z) (m_put m_b13 (0 * (lv + 1)) (lv + 1) m_z) (m_put m_one (0 * (lv + 1)) (lv + 1) m_z) (m_put m_one (0 * (lv + 1)) (lv + 1) m_z) m_z ((0 + 1) * (lv + 1))) j))))] := hD
  have hP9 := hP.sub (ws' := [(pi, .inr (3, [.int (nI L), .int (nI (lv + 1)), .ref q_25, .ref q_32, .ref q_39, .ref q_46, .ref q_55, .int (nI (0 + 1))])), (q_25, .inl (cI, 3 * (lv + 1), .inl (fun j => nI ((m_put m_b13 (0 * (lv + 1)) (lv + 1) m_z) j)))), (q_32, .inl (cI, 3 * (lv + 1), .inl (fun j => nI ((m_put m_one (0 * (lv + 1)) (lv + 1) m_z) j)))), (q_39, .inl (cI, 3 * (lv + 1), .inl (fun j => nI ((m_put m_one (0 * (lv + 1)) (lv + 1) m_z) j)))), (q_46, .inl (cI, 3 * (lv + 1), .inl (fun j => nI ((m_put m_one (0 * (lv + 1)) (lv + 1) m_z) j)))), (q_55, .inl (cI, (3 * (lv + 1)) + 1, .inl (fun j => nI ((m_starts (m_put m_one (0 * (lv + 1)) (lv + 1) m_z) (m_put m_b13 (0 * (lv + 1)) (lv + 1) m_z) (m_put m_one (0 * (lv + 1)) (lv + 1) m_z) (m_put m_one (0 * (lv + 1)) (lv + 1) m_z) m_z ((0 + 1) * (lv + 1))) j))))]) [0, 1, 2, 3, 4, 5] rfl
  have hD9 := hD.sub (ws' := [(pi, .inr (3, [.int (nI L), .int (nI (lv + 1)), .ref q_25, .ref q_32, .ref q_39, .ref q_46, .ref q_55, .int (nI (0 + 1))])), (q_25, .inl (cI, 3 * (lv + 1), .inl (fun j => nI ((m_put m_b13 (0 * (lv + 1)) (lv + 1) m_z) j)))), (q_32, .inl (cI, 3 * (lv + 1), .inl (fun j => nI ((m_put m_one (0 * (lv + 1)) (lv + 1) m_z) j)))), (q_39, .inl (cI, 3 * (lv + 1), .inl (fun j => nI ((m_put m_one (0 * (lv + 1)) (lv + 1) m_z) j)))), (q_46, .inl (cI, 3 * (lv + 1), .inl (fun j => nI ((m_put m_one (0 * (lv + 1)) (lv + 1) m_z) j)))), (q_55, .inl (cI, (3 * (lv + 1)) + 1, .inl (fun j => nI ((m_starts (m_put m_one (0 * (lv + 1)) (lv + 1) m_z) (m_put m_b13 (0 * (lv + 1)) (lv + 1) m_z) (m_put m_one (0 * (lv + 1)) (lv + 1) m_z) (m_put m_one (0 * (lv + 1)) (lv + 1) m_z) m_z ((0 + 1) * (lv + 1))) j))))]) [0, 1, 2, 3, 4, 5] (by decide) rfl
  refine W.widen (k := 5) (n := 61) (Nat.le_of_ble_eq_true rfl) (Nat.le_of_ble_eq_true rfl) ?_
  exact hret (q_25, q_32, q_39, q_46, q_55) _ _ _ _ dPC_init_64 trivial (by rw [Nat.zero_mul, Nat.zero_add, Nat.one_mul] at hP9; exact hP9) (by rw [Nat.zero_mul, Nat.zero_add, Nat.one_mul] at hD9; exact hD9) hS
set_option maxHeartbeats 4000000 in
set_option maxRecDepth 100000 in
theorem k_Rows_init (l : Launch) (dC : Nat → ClassId) (dI : Nat → Nat → Nat) (cI cZ cL : ClassId) (r nb L : Nat) (h1 : nb ≤ 424) (h2 : L ≤ 8) :
    q_CN l (dC, dI) vwCl (tyL cI cZ cL) yRW_init wsRW_init (rmN 4 3 7208) [.ref r, .int (nI nb), .int (nI L)] [(r, .inr (5, [.int (nI 0), .null, .null, .null]))] 3 7208 (fun (u : Nat × Nat × Nat) => True) (fun (u : Nat × Nat × Nat) => [(r, .inr (5, [.int (nI L), .ref u.1, .ref u.2.1, .ref u.2.2])), (u.1, .inl (cI, nb * L, .inl (fun j => nI (m_z j)))), (u.2.1, .inl (cI, nb * L, .inl (fun j => nI (m_z j)))), (u.2.2, .inl (cI, nb, .inl (fun j => nI (m_z j))))]) := by
  refine q_entN "PacketRows$Rows" (by decide) rfl ⟨rfl, rfl⟩ (Nat.le_of_ble_eq_true rfl) ?_
  intro p e s m below meth c ls Q A hx hb hml hts hown hin hP hD hK hZ hO hA hS hl hret
  have hl : lv_has ls 3 [(0, .ref r), (1, .int (nI nb)), (2, .int (nI L))] := hl
  have hnl : nb * L ≤ 424 * 8 := Nat.mul_le_mul h1 h2
  refine lv_aload_n hx hb dRW_init_0 rfl (lv_at hl 0 rfl) ?_
  refine W.objInit hx hb hown (hU hts u_161) (hU hts u_74) (hU hts u_75) rfl (by rw [hml]; exact hl.1) rfl dRW_init_1 (Nat.le_of_ble_eq_true rfl) (Nat.le_of_ble_eq_true rfl) ?_
  refine W.eq (g2 := F0 m 4 ls []) rfl ?_
  refine lv_aload_n hx hb dRW_init_4 rfl (lv_at hl 0 rfl) ?_
  refine lv_iload_n hx hb dRW_init_5 rfl (lv_at hl 2 rfl) ?_
  refine va_putF (D := (dC, dI)) (ci := 5) (v := .int (nI L)) (ty := .int) (C := "PacketRows$Rows") (T := TRW) (N := 4) hx hb hts inRW tyRW tyRW_ok nmRW hown hK hP hD hS 0 rfl rfl 0 (by decide) (hU hts u_162) (fun _ h9 => h9) rfl hin rfl (by decide +kernel) rfl rfl (Nat.le_of_ble_eq_true rfl) dRW_init_6 (fun H locs hP hD hS => ?_)
  have hP : va_P (dC, dI) vwCl [(r, .inr (5, [.int (nI L), .null, .null, .null]))] H := hP
  have hD : va_D A [(r, .inr (5, [.int (nI L), .null, .null, .null]))] := hD
  refine lv_aload_n hx hb dRW_init_9 rfl (lv_at hl 0 rfl) ?_
  refine lv_iload_n hx hb dRW_init_10 rfl (lv_at hl 1 rfl) ?_
  refine lv_iload_n hx hb dRW_init_11 rfl (lv_at hl 2 rfl) ?_
  refine qn_imul hx hb dRW_init_12 ?_
  refine q_newai hx hb (hU hts u_150) hK hP hD hS hA (k := nb * L) (by omega) (Nat.le_of_ble_eq_true rfl) (Nat.le_trans (Nat.add_le_add_left (show nb * L ≤ 3392 by omega) _) (Nat.le_of_ble_eq_true rfl)) dRW_init_13 (fun q_13 H hP hD hS => ?_)
  refine W.widen (k := 1) (n := 3392) (Nat.le_of_ble_eq_true rfl) (Nat.add_le_add_left (show nb * L ≤ 3392 by omega) 0) ?_
  have hP : va_P (dC, dI) vwCl [(r, .inr (5, [.int (nI L), .null, .null, .null])), (q_13, .inl (cI, nb * L, .inl (fun j => nI (m_z j))))] H := hP
  have hD : va_D A [(r, .inr (5, [.int (nI L), .null, .null, .null])), (q_13, .inl (cI, nb * L, .inl (fun j => nI (m_z j))))] := hD
  refine va_putF (D := (dC, dI)) (ci := 5) (v := .ref q_13) (ty := (.array .int)) (C := "PacketRows$Rows") (T := TRW) (N := 4) hx hb hts inRW tyRW tyRW_ok nmRW hown hK hP hD hS 0 rfl rfl 1 (by decide) (hU hts u_163) (fun _ h9 => h9) rfl hin rfl (by decide +kernel) rfl rfl (Nat.le_of_ble_eq_true rfl) dRW_init_15 (fun H locs hP hD hS => ?_)
  have hP : va_P (dC, dI) vwCl [(r, .inr (5, [.int (nI L), .ref q_13, .null, .null])), (q_13, .inl (cI, nb * L, .inl (fun j => nI (m_z j))))] H := hP
  have hD : va_D A [(r, .inr (5, [.int (nI L), .ref q_13, .null, .null])), (q_13, .inl (cI, nb * L, .inl (fun j => nI (m_z j))))] := hD
  refine lv_aload_n hx hb dRW_init_18 rfl (lv_at hl 0 rfl) ?_
  refine lv_iload_n hx hb dRW_init_19 rfl (lv_at hl 1 rfl) ?_
  refine lv_iload_n hx hb dRW_init_20 rfl (lv_at hl 2 rfl) ?_
  refine qn_imul hx hb dRW_init_21 ?_
  refine q_newai hx hb (hU hts u_150) hK hP hD hS hA (k := nb * L) (by omega) (Nat.le_of_ble_eq_true rfl) (Nat.le_trans (Nat.add_le_add_left (show nb * L ≤ 3392 by omega) _) (Nat.le_of_ble_eq_true rfl)) dRW_init_22 (fun q_22 H hP hD hS => ?_)
  refine W.widen (k := 2) (n := 6784) (Nat.le_of_ble_eq_true rfl) (Nat.add_le_add_left (show nb * L ≤ 3392 by omega) 3392) ?_
  have hP : va_P (dC, dI) vwCl [(r, .inr (5, [.int (nI L), .ref q_13, .null, .null])), (q_13, .inl (cI, nb * L, .inl (fun j => nI (m_z j)))), (q_22, .inl (cI, nb * L, .inl (fun j => nI (m_z j))))] H := hP
  have hD : va_D A [(r, .inr (5, [.int (nI L), .ref q_13, .null, .null])), (q_13, .inl (cI, nb * L, .inl (fun j => nI (m_z j)))), (q_22, .inl (cI, nb * L, .inl (fun j => nI (m_z j))))] := hD
  refine va_putF (D := (dC, dI)) (ci := 5) (v := .ref q_22) (ty := (.array .int)) (C := "PacketRows$Rows") (T := TRW) (N := 4) hx hb hts inRW tyRW tyRW_ok nmRW hown hK hP hD hS 0 rfl rfl 2 (by decide) (hU hts u_164) (fun _ h9 => h9) rfl hin rfl (by decide +kernel) rfl rfl (Nat.le_of_ble_eq_true rfl) dRW_init_24 (fun H locs hP hD hS => ?_)
  have hP : va_P (dC, dI) vwCl [(r, .inr (5, [.int (nI L), .ref q_13, .ref q_22, .null])), (q_13, .inl (cI, nb * L, .inl (fun j => nI (m_z j)))), (q_22, .inl (cI, nb * L, .inl (fun j => nI (m_z j))))] H := hP
  have hD : va_D A [(r, .inr (5, [.int (nI L), .ref q_13, .ref q_22, .null])), (q_13, .inl (cI, nb * L, .inl (fun j => nI (m_z j)))), (q_22, .inl (cI, nb * L, .inl (fun j => nI (m_z j))))] := hD
  refine lv_aload_n hx hb dRW_init_27 rfl (lv_at hl 0 rfl) ?_
  refine lv_iload_n hx hb dRW_init_28 rfl (lv_at hl 1 rfl) ?_
  refine q_newai hx hb (hU hts u_150) hK hP hD hS hA (k := nb) (by omega) (Nat.le_of_ble_eq_true rfl) (Nat.le_trans (Nat.add_le_add_left (show nb ≤ 424 by omega) _) (Nat.le_of_ble_eq_true rfl)) dRW_init_29 (fun q_29 H hP hD hS => ?_)
  refine W.widen (k := 3) (n := 7208) (Nat.le_of_ble_eq_true rfl) (Nat.add_le_add_left (show nb ≤ 424 by omega) 6784) ?_
  have hP : va_P (dC, dI) vwCl [(r, .inr (5, [.int (nI L), .ref q_13, .ref q_22, .null])), (q_13, .inl (cI, nb * L, .inl (fun j => nI (m_z j)))), (q_22, .inl (cI, nb * L, .inl (fun j => nI (m_z j)))), (q_29, .inl (cI, nb, .inl (fun j => nI (m_z j))))] H := hP
  have hD : va_D A [(r, .inr (5, [.int (nI L), .ref q_13, .ref q_22, .null])), (q_13, .inl (cI, nb * L, .inl (fun j => nI (m_z j)))), (q_22, .inl (cI, nb * L, .inl (fun j => nI (m_z j)))), (q_29, .inl (cI, nb, .inl (fun j => nI (m_z j))))] := hD
  refine va_putF (D := (dC, dI)) (ci := 5) (v := .ref q_29) (ty := (.array .int)) (C := "PacketRows$Rows") (T := TRW) (N := 4) hx hb hts inRW tyRW tyRW_ok nmRW hown hK hP hD hS 0 rfl rfl 3 (by decide) (hU hts u_165) (fun _ h9 => h9) rfl hin rfl (by decide +kernel) rfl rfl (Nat.le_of_ble_eq_true rfl) dRW_init_31 (fun H locs hP hD hS => ?_)
  have hP : va_P (dC, dI) vwCl [(r, .inr (5, [.int (nI L), .ref q_13, .ref q_22, .ref q_29])), (q_13, .inl (cI, nb * L, .inl (fun j => nI (m_z j)))), (q_22, .inl (cI, nb * L, .inl (fun j => nI (m_z j)))), (q_29, .inl (cI, nb, .inl (fun j => nI (m_z j))))] H := hP
  have hD : va_D A [(r, .inr (5, [.int (nI L), .ref q_13, .ref q_22, .ref q_29])), (q_13, .inl (cI, nb * L, .inl (fun j => nI (m_z j)))), (q_22, .inl (cI, nb * L, .inl (fun j => nI (m_z j)))), (q_29, .inl (cI, nb, .inl (fun j => nI (m_z j))))] := hD
  have hP9 := hP.sub (ws' := [(r, .inr (5, [.int (nI L), .ref q_13, .ref q_22, .ref q_29])), (q_13, .inl (cI, nb * L, .inl (fun j => nI (m_z j)))), (q_22, .inl (cI, nb * L, .inl (fun j => nI (m_z j)))), (q_29, .inl (cI, nb, .inl (fun j => nI (m_z j))))]) [0, 1, 2, 3] rfl
  have hD9 := hD.sub (ws' := [(r, .inr (5, [.int (nI L), .ref q_13, .ref q_22, .ref q_29])), (q_13, .inl (cI, nb * L, .inl (fun j => nI (m_z j)))), (q_22, .inl (cI, nb * L, .inl (fun j => nI (m_z j)))), (q_29, .inl (cI, nb, .inl (fun j => nI (m_z j))))]) [0, 1, 2, 3] (by decide) rfl
  refine W.widen (k := 3) (n := 7208) (Nat.le_of_ble_eq_true rfl) (Nat.le_of_ble_eq_true rfl) ?_
  exact hret (q_13, q_22, q_29) _ _ _ _ dRW_init_34 trivial hP9 hD9 hS
set_option maxHeartbeats 4000000 in
set_option maxRecDepth 100000 in
theorem k_ByteRow_init (l : Launch) (dC : Nat → ClassId) (dI : Nat → Nat → Nat) (cI cZ cL : ClassId) (br : Nat)  :
    q_CN l (dC, dI) vwCl (tyL cI cZ cL) yBR_init wsBR_init (rmN 4 1 6000) [.ref br] [(br, .inr (0, [.null, .int (nI 0)]))] 1 6000 (fun (row : Nat) => True) (fun (row : Nat) => [(br, .inr (0, [.ref row, .int (nI 0)])), (row, .inl (cI, 6000, .inl (fun j => nI (m_z j))))]) := by
  refine q_entN "PacketRows$ByteRow" (by decide) rfl ⟨rfl, rfl⟩ (Nat.le_of_ble_eq_true rfl) ?_
  intro p e s m below meth c ls Q A hx hb hml hts hown hin hP hD hK hZ hO hA hS hl hret
  have hl : lv_has ls 1 [(0, .ref br)] := hl
  refine lv_aload_n hx hb dBR_init_0 rfl (lv_at hl 0 rfl) ?_
  refine W.objInit hx hb hown (hU hts u_224) (hU hts u_74) (hU hts u_75) rfl (by rw [hml]; exact hl.1) rfl dBR_init_1 (Nat.le_of_ble_eq_true rfl) (Nat.le_of_ble_eq_true rfl) ?_
  refine W.eq (g2 := F0 m 4 ls []) rfl ?_
  refine lv_aload_n hx hb dBR_init_4 rfl (lv_at hl 0 rfl) ?_
  refine lv_sipush (v := nI 6000) hx hb dBR_init_5 (by decide +kernel) ?_
  refine q_newai hx hb (hU hts u_150) hK hP hD hS hA (k := 6000) (by omega) (Nat.le_of_ble_eq_true rfl) (Nat.le_trans (Nat.add_le_add_left (show 6000 ≤ 6000 by omega) _) (Nat.le_of_ble_eq_true rfl)) dBR_init_8 (fun q_8 H hP hD hS => ?_)
  refine W.widen (k := 1) (n := 6000) (Nat.le_of_ble_eq_true rfl) (Nat.le_of_ble_eq_true rfl) ?_
  have hP : va_P (dC, dI) vwCl [(br, .inr (0, [.null, .int (nI 0)])), (q_8, .inl (cI, 6000, .inl (fun j => nI (m_z j))))] H := hP
  have hD : va_D A [(br, .inr (0, [.null, .int (nI 0)])), (q_8, .inl (cI, 6000, .inl (fun j => nI (m_z j))))] := hD
  refine va_putF (D := (dC, dI)) (ci := 0) (v := .ref q_8) (ty := (.array .int)) (C := "PacketRows$ByteRow") (T := TBR) (N := 2) hx hb hts inBR tyBR tyBR_ok nmBR hown hK hP hD hS 0 rfl rfl 0 (by decide) (hU hts u_225) (fun _ h9 => h9) rfl hin rfl (by decide +kernel) rfl rfl (Nat.le_of_ble_eq_true rfl) dBR_init_10 (fun H locs hP hD hS => ?_)
  have hP : va_P (dC, dI) vwCl [(br, .inr (0, [.ref q_8, .int (nI 0)])), (q_8, .inl (cI, 6000, .inl (fun j => nI (m_z j))))] H := hP
  have hD : va_D A [(br, .inr (0, [.ref q_8, .int (nI 0)])), (q_8, .inl (cI, 6000, .inl (fun j => nI (m_z j))))] := hD
  have hP9 := hP.sub (ws' := [(br, .inr (0, [.ref q_8, .int (nI 0)])), (q_8, .inl (cI, 6000, .inl (fun j => nI (m_z j))))]) [0, 1] rfl
  have hD9 := hD.sub (ws' := [(br, .inr (0, [.ref q_8, .int (nI 0)])), (q_8, .inl (cI, 6000, .inl (fun j => nI (m_z j))))]) [0, 1] (by decide) rfl
  refine W.widen (k := 1) (n := 6000) (Nat.le_of_ble_eq_true rfl) (Nat.le_of_ble_eq_true rfl) ?_
  exact hret (q_8) _ _ _ _ dBR_init_13 trivial hP9 hD9 hS
set_option maxHeartbeats 4000000 in
set_option maxRecDepth 100000 in
theorem k_Bits_init_W (l : Launch) (dC : Nat → ClassId) (dI : Nat → Nat → Nat) (cI cZ cL : ClassId) (wr : Nat)  :
    q_CV l (dC, dI) vwCl (tyL cI cZ cL) yBT_init wsBT_init (rmD 0) [.ref wr] [(wr, .inr (7, [.int (nI 0), .null, .null, .int (nI 0), .int (bI false), .int (nI 0), .int (nI 0)]))] (fun (_ : Unit) => True) (fun (_ : Unit) => [(wr, .inr (7, [.int (nI 0), .null, .null, .int (nI 0), .int (bI false), .int (nI 0), .int (nI 0)]))]) := by
  refine q_entV "PacketRows$Bits" (by decide) rfl rfl (Nat.le_of_ble_eq_true rfl) ?_
  intro p e s m below meth c ls Q A hx hb hml hts hown hP hD hK hZ hO hA hS hl hret
  have hl : lv_has ls 1 [(0, .ref wr)] := hl
  refine lv_aload_n hx hb dBT_init_0 rfl (lv_at hl 0 rfl) ?_
  refine W.objInit hx hb hown (hU hts u_245) (hU hts u_74) (hU hts u_75) rfl (by rw [hml]; exact hl.1) rfl dBT_init_1 (Nat.le_of_ble_eq_true rfl) (Nat.le_of_ble_eq_true rfl) ?_
  refine W.eq (g2 := F0 m 4 ls []) rfl ?_
  exact hret () _ _ _ _ dBT_init_4 trivial hP hS
set_option maxHeartbeats 4000000 in
set_option maxRecDepth 100000 in
theorem k_Bits_init_R (l : Launch) (dC : Nat → ClassId) (dI : Nat → Nat → Nat) (cI cZ cL : ClassId) (rd : Nat)  :
    q_CV l (dC, dI) vwCl (tyL cI cZ cL) yBT_init wsBT_init (rmD 0) [.ref rd] [(rd, .inr (4, [.int (nI 0), .null, .int (nI 0), .int (nI 0), .int (nI 0)]))] (fun (_ : Unit) => True) (fun (_ : Unit) => [(rd, .inr (4, [.int (nI 0), .null, .int (nI 0), .int (nI 0), .int (nI 0)]))]) := by
  refine q_entV "PacketRows$Bits" (by decide) rfl rfl (Nat.le_of_ble_eq_true rfl) ?_
  intro p e s m below meth c ls Q A hx hb hml hts hown hP hD hK hZ hO hA hS hl hret
  have hl : lv_has ls 1 [(0, .ref rd)] := hl
  refine lv_aload_n hx hb dBT_init_0 rfl (lv_at hl 0 rfl) ?_
  refine W.objInit hx hb hown (hU hts u_245) (hU hts u_74) (hU hts u_75) rfl (by rw [hml]; exact hl.1) rfl dBT_init_1 (Nat.le_of_ble_eq_true rfl) (Nat.le_of_ble_eq_true rfl) ?_
  refine W.eq (g2 := F0 m 4 ls []) rfl ?_
  exact hret () _ _ _ _ dBT_init_4 trivial hP hS
set_option maxHeartbeats 4000000 in
set_option maxRecDepth 100000 in
theorem k_Writer_init (l : Launch) (dC : Nat → ClassId) (dI : Nat → Nat → Nat) (cI cZ cL : ClassId) (wr br np : Nat) (h1 : np ≤ 384) :
    q_CN l (dC, dI) vwCl (tyL cI cZ cL) yWR_init wsWR_init (rmN 4 1 384) [.ref wr, .ref br, .int (nI np)] [(wr, .inr (7, [.int (nI 0), .null, .null, .int (nI 0), .int (bI false), .int (nI 0), .int (nI 0)]))] 1 384 (fun (bg : Nat) => True) (fun (bg : Nat) => [(wr, .inr (7, [.int (nI 0), .ref br, .ref bg, .int (nI 0), .int (bI false), .int (nI 0), .int (nI 0)])), (bg, .inl (cI, np, .inl (fun j => nI (m_z j))))]) := by
  refine q_entN "PacketRows$Writer" (by decide) rfl ⟨rfl, rfl⟩ (Nat.le_of_ble_eq_true rfl) ?_
  intro p e s m below meth c ls Q A hx hb hml hts hown hin hP hD hK hZ hO hA hS hl hret
  have hl : lv_has ls 3 [(0, .ref wr), (1, .ref br), (2, .int (nI np))] := hl
  refine lv_aload_n hx hb dWR_init_0 rfl (lv_at hl 0 rfl) ?_
  refine q_callv (va_runIN (As := []) (rest := []) ⟨hx, hb, hml, hown, hts⟩ (k_Bits_init_W l dC dI cI cZ cL wr  s.heap.size) ⟨va_cnB (host := "PacketRows") 0 hts (gU (gW u_244)) rfl rfl rfl (hZ.1 _ z_1) (hU hts u_46) (by decide +kernel) ⟨Nat.le_of_ble_eq_true rfl, Nat.le_of_ble_eq_true rfl⟩, rfl, hU hts u_243⟩ (q_preM hK hZ hO hS hA hP hD [0] rfl (by decide)) rfl rfl hl.1 rfl (lv_room (Nat.le_of_ble_eq_true rfl)) dWR_init_1 ⟨Nat.le_of_ble_eq_true rfl, Nat.le_of_ble_eq_true rfl⟩) hP hD hS hA [0] rfl (by decide) (fun _ => by simp only [List.map_cons, List.map_nil]) (fun u_ H locs hpost hP hD hS => ?_)
  have hP : va_P (dC, dI) vwCl [(wr, .inr (7, [.int (nI 0), .null, .null, .int (nI 0), .int (bI false), .int (nI 0), .int (nI 0)]))] H := hP
  have hD : va_D A [(wr, .inr (7, [.int (nI 0), .null, .null, .int (nI 0), .int (bI false), .int (nI 0), .int (nI 0)]))] := hD
  refine lv_aload_n hx hb dWR_init_4 rfl (lv_at hl 0 rfl) ?_
  refine lv_aload_n hx hb dWR_init_5 rfl (lv_at hl 1 rfl) ?_
  refine va_putF (D := (dC, dI)) (ci := 7) (v := .ref br) (ty := (.object "PacketRows$ByteRow")) (C := "PacketRows$Writer") (T := TWR) (N := 7) hx hb hts inWR tyWR tyWR_ok nmWR hown hK hP hD hS 0 rfl rfl 1 (by decide) (hU hts u_246) (fun _ h9 => h9) rfl hin rfl (by decide +kernel) rfl rfl (Nat.le_of_ble_eq_true rfl) dWR_init_6 (fun H locs hP hD hS => ?_)
  have hP : va_P (dC, dI) vwCl [(wr, .inr (7, [.int (nI 0), .ref br, .null, .int (nI 0), .int (bI false), .int (nI 0), .int (nI 0)]))] H := hP
  have hD : va_D A [(wr, .inr (7, [.int (nI 0), .ref br, .null, .int (nI 0), .int (bI false), .int (nI 0), .int (nI 0)]))] := hD
  refine lv_aload_n hx hb dWR_init_9 rfl (lv_at hl 0 rfl) ?_
  refine lv_iload_n hx hb dWR_init_10 rfl (lv_at hl 2 rfl) ?_
  refine q_newai hx hb (hU hts u_150) hK hP hD hS hA (k := np) (by omega) (Nat.le_of_ble_eq_true rfl) (Nat.le_trans (Nat.add_le_add_left (show np ≤ 384 by omega) _) (Nat.le_of_ble_eq_true rfl)) dWR_init_11 (fun q_11 H hP hD hS => ?_)
  refine W.widen (k := 1) (n := 384) (Nat.le_of_ble_eq_true rfl) (Nat.add_le_add_left (show np ≤ 384 by omega) 0) ?_
  have hP : va_P (dC, dI) vwCl [(wr, .inr (7, [.int (nI 0), .ref br, .null, .int (nI 0), .int (bI false), .int (nI 0), .int (nI 0)])), (q_11, .inl (cI, np, .inl (fun j => nI (m_z j))))] H := hP
  have hD : va_D A [(wr, .inr (7, [.int (nI 0), .ref br, .null, .int (nI 0), .int (bI false), .int (nI 0), .int (nI 0)])), (q_11, .inl (cI, np, .inl (fun j => nI (m_z j))))] := hD
  refine va_putF (D := (dC, dI)) (ci := 7) (v := .ref q_11) (ty := (.array .int)) (C := "PacketRows$Writer") (T := TWR) (N := 7) hx hb hts inWR tyWR tyWR_ok nmWR hown hK hP hD hS 0 rfl rfl 2 (by decide) (hU hts u_247) (fun _ h9 => h9) rfl hin rfl (by decide +kernel) rfl rfl (Nat.le_of_ble_eq_true rfl) dWR_init_13 (fun H locs hP hD hS => ?_)
  have hP : va_P (dC, dI) vwCl [(wr, .inr (7, [.int (nI 0), .ref br, .ref q_11, .int (nI 0), .int (bI false), .int (nI 0), .int (nI 0)])), (q_11, .inl (cI, np, .inl (fun j => nI (m_z j))))] H := hP
  have hD : va_D A [(wr, .inr (7, [.int (nI 0), .ref br, .ref q_11, .int (nI 0), .int (bI false), .int (nI 0), .int (nI 0)])), (q_11, .inl (cI, np, .inl (fun j => nI (m_z j))))] := hD
  have hP9 := hP.sub (ws' := [(wr, .inr (7, [.int (nI 0), .ref br, .ref q_11, .int (nI 0), .int (bI false), .int (nI 0), .int (nI 0)])), (q_11, .inl (cI, np, .inl (fun j => nI (m_z j))))]) [0, 1] rfl
  have hD9 := hD.sub (ws' := [(wr, .inr (7, [.int (nI 0), .ref br, .ref q_11, .int (nI 0), .int (bI false), .int (nI 0), .int (nI 0)])), (q_11, .inl (cI, np, .inl (fun j => nI (m_z j))))]) [0, 1] (by decide) rfl
  refine W.widen (k := 1) (n := 384) (Nat.le_of_ble_eq_true rfl) (Nat.le_of_ble_eq_true rfl) ?_
  exact hret (q_11) _ _ _ _ dWR_init_16 trivial hP9 hD9 hS
set_option maxHeartbeats 4000000 in
set_option maxRecDepth 100000 in
theorem k_Reader_init (l : Launch) (dC : Nat → ClassId) (dI : Nat → Nat → Nat) (cI cZ cL : ClassId) (rd br : Nat)  :
    q_CN l (dC, dI) vwCl (tyL cI cZ cL) yRD_init wsRD_init (rmD 4) [.ref rd, .ref br] [(rd, .inr (4, [.int (nI 0), .null, .int (nI 0), .int (nI 0), .int (nI 0)]))] 0 0 (fun (_ : Unit) => True) (fun (_ : Unit) => [(rd, .inr (4, [.int (nI 0), .ref br, .int (nI 0), .int (nI 0), .int (nI 0)]))]) := by
  refine q_entN "PacketRows$Reader" (by decide) rfl ⟨rfl, rfl⟩ (Nat.le_of_ble_eq_true rfl) ?_
  intro p e s m below meth c ls Q A hx hb hml hts hown hin hP hD hK hZ hO hA hS hl hret
  have hl : lv_has ls 2 [(0, .ref rd), (1, .ref br)] := hl
  refine lv_aload_n hx hb dRD_init_0 rfl (lv_at hl 0 rfl) ?_
  refine q_callv (va_runIN (As := []) (rest := []) ⟨hx, hb, hml, hown, hts⟩ (k_Bits_init_R l dC dI cI cZ cL rd  s.heap.size) ⟨va_cnB (host := "PacketRows") 0 hts (gU (gW u_244)) rfl rfl rfl (hZ.1 _ z_2) (hU hts u_46) (by decide +kernel) ⟨Nat.le_of_ble_eq_true rfl, Nat.le_of_ble_eq_true rfl⟩, rfl, hU hts u_243⟩ (q_preM hK hZ hO hS hA hP hD [0] rfl (by decide)) rfl rfl hl.1 rfl (lv_room (Nat.le_of_ble_eq_true rfl)) dRD_init_1 ⟨Nat.le_of_ble_eq_true rfl, Nat.le_of_ble_eq_true rfl⟩) hP hD hS hA [0] rfl (by decide) (fun _ => by simp only [List.map_cons, List.map_nil]) (fun u_ H locs hpost hP hD hS => ?_)
  have hP : va_P (dC, dI) vwCl [(rd, .inr (4, [.int (nI 0), .null, .int (nI 0), .int (nI 0), .int (nI 0)]))] H := hP
  have hD : va_D A [(rd, .inr (4, [.int (nI 0), .null, .int (nI 0), .int (nI 0), .int (nI 0)]))] := hD
  refine lv_aload_n hx hb dRD_init_4 rfl (lv_at hl 0 rfl) ?_
  refine lv_aload_n hx hb dRD_init_5 rfl (lv_at hl 1 rfl) ?_
  refine va_putF (D := (dC, dI)) (ci := 4) (v := .ref br) (ty := (.object "PacketRows$ByteRow")) (C := "PacketRows$Reader") (T := TRD) (N := 5) hx hb hts inRD tyRD tyRD_ok nmRD hown hK hP hD hS 0 rfl rfl 1 (by decide) (hU hts u_280) (fun _ h9 => h9) rfl hin rfl (by decide +kernel) rfl rfl (Nat.le_of_ble_eq_true rfl) dRD_init_6 (fun H locs hP hD hS => ?_)
  have hP : va_P (dC, dI) vwCl [(rd, .inr (4, [.int (nI 0), .ref br, .int (nI 0), .int (nI 0), .int (nI 0)]))] H := hP
  have hD : va_D A [(rd, .inr (4, [.int (nI 0), .ref br, .int (nI 0), .int (nI 0), .int (nI 0)]))] := hD
  have hP9 := hP.sub (ws' := [(rd, .inr (4, [.int (nI 0), .ref br, .int (nI 0), .int (nI 0), .int (nI 0)]))]) [0] rfl
  have hD9 := hD.sub (ws' := [(rd, .inr (4, [.int (nI 0), .ref br, .int (nI 0), .int (nI 0), .int (nI 0)]))]) [0] (by decide) rfl
  refine W.widen (k := 0) (n := 0) (Nat.le_of_ble_eq_true rfl) (Nat.le_of_ble_eq_true rfl) ?_
  exact hret () _ _ _ _ dRD_init_9 trivial hP9 hD9 hS
set_option maxHeartbeats 4000000 in
set_option maxRecDepth 100000 in
theorem k_Tree_init (l : Launch) (dC : Nat → ClassId) (dI : Nat → Nat → Nat) (cI cZ cL : ClassId) (t tp nt : Nat) (g : Nat → Option Nat) (h1 : nt ≤ 848) :
    q_CN l (dC, dI) vwCl (tyL cI cZ cL) yTR_init wsTR_init (rmN 4 4 2547) [.ref t, .ref tp] [(t, .inr (6, [.null, .null, .null, .null, .null])), (tp, .inl (cI, nt, .inl (fun j => oI (g j))))] 4 2547 (fun (u : Nat × Nat × Nat × Nat) => True) (fun (u : Nat × Nat × Nat × Nat) => [(t, .inr (6, [.ref tp, .ref u.1, .ref u.2.1, .ref u.2.2.1, .ref u.2.2.2])), (tp, .inl (cI, nt, .inl (fun j => oI (g j)))), (u.1, .inl (cI, nt, .inl (fun j => nI (m_z j)))), (u.2.1, .inl (cI, nt, .inl (fun j => nI (m_z j)))), (u.2.2.1, .inl (cZ, nt, .inl (fun j => bI (m_f j)))), (u.2.2.2, .inl (cI, 3, .inl (fun j => nI (m_z j))))]) := by
  refine q_entN "PacketRows$Tree" (by decide) rfl ⟨rfl, rfl⟩ (Nat.le_of_ble_eq_true rfl) ?_
  intro p e s m below meth c ls Q A hx hb hml hts hown hin hP hD hK hZ hO hA hS hl hret
  have hl : lv_has ls 2 [(0, .ref t), (1, .ref tp)] := hl
  refine lv_aload_n hx hb dTR_init_0 rfl (lv_at hl 0 rfl) ?_
  refine W.objInit hx hb hown (hU hts u_307) (hU hts u_74) (hU hts u_75) rfl (by rw [hml]; exact hl.1) rfl dTR_init_1 (Nat.le_of_ble_eq_true rfl) (Nat.le_of_ble_eq_true rfl) ?_
  refine W.eq (g2 := F0 m 4 ls []) rfl ?_
  refine lv_aload_n hx hb dTR_init_4 rfl (lv_at hl 0 rfl) ?_
  refine lv_iconst (v := nI 3) hx hb dTR_init_5 (by decide +kernel) ?_
  refine q_newai hx hb (hU hts u_150) hK hP hD hS hA (k := 3) (by omega) (Nat.le_of_ble_eq_true rfl) (Nat.le_trans (Nat.add_le_add_left (show 3 ≤ 3 by omega) _) (Nat.le_of_ble_eq_true rfl)) dTR_init_6 (fun q_6 H hP hD hS => ?_)
  refine W.widen (k := 1) (n := 3) (Nat.le_of_ble_eq_true rfl) (Nat.le_of_ble_eq_true rfl) ?_
  have hP : va_P (dC, dI) vwCl [(t, .inr (6, [.null, .null, .null, .null, .null])), (tp, .inl (cI, nt, .inl (fun j => oI (g j)))), (q_6, .inl (cI, 3, .inl (fun j => nI (m_z j))))] H := hP
  have hD : va_D A [(t, .inr (6, [.null, .null, .null, .null, .null])), (tp, .inl (cI, nt, .inl (fun j => oI (g j)))), (q_6, .inl (cI, 3, .inl (fun j => nI (m_z j))))] := hD
  refine va_putF (D := (dC, dI)) (ci := 6) (v := .ref q_6) (ty := (.array .int)) (C := "PacketRows$Tree") (T := TTR) (N := 5) hx hb hts inTR tyTR tyTR_ok nmTR hown hK hP hD hS 0 rfl rfl 4 (by decide) (hU hts u_312) (fun _ h9 => h9) rfl hin rfl (by decide +kernel) rfl rfl (Nat.le_of_ble_eq_true rfl) dTR_init_8 (fun H locs hP hD hS => ?_)
  have hP : va_P (dC, dI) vwCl [(t, .inr (6, [.null, .null, .null, .null, .ref q_6])), (tp, .inl (cI, nt, .inl (fun j => oI (g j)))), (q_6, .inl (cI, 3, .inl (fun j => nI (m_z j))))] H := hP
  have hD : va_D A [(t, .inr (6, [.null, .null, .null, .null, .ref q_6])), (tp, .inl (cI, nt, .inl (fun j => oI (g j)))), (q_6, .inl (cI, 3, .inl (fun j => nI (m_z j))))] := hD
  refine lv_aload_n hx hb dTR_init_11 rfl (lv_at hl 0 rfl) ?_
  refine lv_aload_n hx hb dTR_init_12 rfl (lv_at hl 1 rfl) ?_
  refine va_putF (D := (dC, dI)) (ci := 6) (v := .ref tp) (ty := (.array .int)) (C := "PacketRows$Tree") (T := TTR) (N := 5) hx hb hts inTR tyTR tyTR_ok nmTR hown hK hP hD hS 0 rfl rfl 0 (by decide) (hU hts u_308) (fun _ h9 => h9) rfl hin rfl (by decide +kernel) rfl rfl (Nat.le_of_ble_eq_true rfl) dTR_init_13 (fun H locs hP hD hS => ?_)
  have hP : va_P (dC, dI) vwCl [(t, .inr (6, [.ref tp, .null, .null, .null, .ref q_6])), (tp, .inl (cI, nt, .inl (fun j => oI (g j)))), (q_6, .inl (cI, 3, .inl (fun j => nI (m_z j))))] H := hP
  have hD : va_D A [(t, .inr (6, [.ref tp, .null, .null, .null, .ref q_6])), (tp, .inl (cI, nt, .inl (fun j => oI (g j)))), (q_6, .inl (cI, 3, .inl (fun j => nI (m_z j))))] := hD
  refine lv_aload_n hx hb dTR_init_16 rfl (lv_at hl 0 rfl) ?_
  refine lv_aload_n hx hb dTR_init_17 rfl (lv_at hl 1 rfl) ?_
  refine va_alen (v := nI nt) hx hb hK hP 1 0 rfl rfl rfl dTR_init_18 ?_
  refine q_newai hx hb (hU hts u_150) hK hP hD hS hA (k := nt) (by omega) (Nat.le_of_ble_eq_true rfl) (Nat.le_trans (Nat.add_le_add_left (show nt ≤ 848 by omega) _) (Nat.le_of_ble_eq_true rfl)) dTR_init_19 (fun q_19 H hP hD hS => ?_)
  refine W.widen (k := 2) (n := 851) (Nat.le_of_ble_eq_true rfl) (Nat.add_le_add_left (show nt ≤ 848 by omega) 3) ?_
  have hP : va_P (dC, dI) vwCl [(t, .inr (6, [.ref tp, .null, .null, .null, .ref q_6])), (tp, .inl (cI, nt, .inl (fun j => oI (g j)))), (q_6, .inl (cI, 3, .inl (fun j => nI (m_z j)))), (q_19, .inl (cI, nt, .inl (fun j => nI (m_z j))))] H := hP
  have hD : va_D A [(t, .inr (6, [.ref tp, .null, .null, .null, .ref q_6])), (tp, .inl (cI, nt, .inl (fun j => oI (g j)))), (q_6, .inl (cI, 3, .inl (fun j => nI (m_z j)))), (q_19, .inl (cI, nt, .inl (fun j => nI (m_z j))))] := hD
  refine va_putF (D := (dC, dI)) (ci := 6) (v := .ref q_19) (ty := (.array .int)) (C := "PacketRows$Tree") (T := TTR) (N := 5) hx hb hts inTR tyTR tyTR_ok nmTR hown hK hP hD hS 0 rfl rfl 1 (by decide) (hU hts u_309) (fun _ h9 => h9) rfl hin rfl (by decide +kernel) rfl rfl (Nat.le_of_ble_eq_true rfl) dTR_init_21 (fun H locs hP hD hS => ?_)
  have hP : va_P (dC, dI) vwCl [(t, .inr (6, [.ref tp, .ref q_19, .null, .null, .ref q_6])), (tp, .inl (cI, nt, .inl (fun j => oI (g j)))), (q_6, .inl (cI, 3, .inl (fun j => nI (m_z j)))), (q_19, .inl (cI, nt, .inl (fun j => nI (m_z j))))] H := hP
  have hD : va_D A [(t, .inr (6, [.ref tp, .ref q_19, .null, .null, .ref q_6])), (tp, .inl (cI, nt, .inl (fun j => oI (g j)))), (q_6, .inl (cI, 3, .inl (fun j => nI (m_z j)))), (q_19, .inl (cI, nt, .inl (fun j => nI (m_z j))))] := hD
  refine lv_aload_n hx hb dTR_init_24 rfl (lv_at hl 0 rfl) ?_
  refine lv_aload_n hx hb dTR_init_25 rfl (lv_at hl 1 rfl) ?_
  refine va_alen (v := nI nt) hx hb hK hP 1 0 rfl rfl rfl dTR_init_26 ?_
  refine q_newai hx hb (hU hts u_150) hK hP hD hS hA (k := nt) (by omega) (Nat.le_of_ble_eq_true rfl) (Nat.le_trans (Nat.add_le_add_left (show nt ≤ 848 by omega) _) (Nat.le_of_ble_eq_true rfl)) dTR_init_27 (fun q_27 H hP hD hS => ?_)
  refine W.widen (k := 3) (n := 1699) (Nat.le_of_ble_eq_true rfl) (Nat.add_le_add_left (show nt ≤ 848 by omega) 851) ?_
  have hP : va_P (dC, dI) vwCl [(t, .inr (6, [.ref tp, .ref q_19, .null, .null, .ref q_6])), (tp, .inl (cI, nt, .inl (fun j => oI (g j)))), (q_6, .inl (cI, 3, .inl (fun j => nI (m_z j)))), (q_19, .inl (cI, nt, .inl (fun j => nI (m_z j)))), (q_27, .inl (cI, nt, .inl (fun j => nI (m_z j))))] H := hP
  have hD : va_D A [(t, .inr (6, [.ref tp, .ref q_19, .null, .null, .ref q_6])), (tp, .inl (cI, nt, .inl (fun j => oI (g j)))), (q_6, .inl (cI, 3, .inl (fun j => nI (m_z j)))), (q_19, .inl (cI, nt, .inl (fun j => nI (m_z j)))), (q_27, .inl (cI, nt, .inl (fun j => nI (m_z j))))] := hD
  refine va_putF (D := (dC, dI)) (ci := 6) (v := .ref q_27) (ty := (.array .int)) (C := "PacketRows$Tree") (T := TTR) (N := 5) hx hb hts inTR tyTR tyTR_ok nmTR hown hK hP hD hS 0 rfl rfl 2 (by decide) (hU hts u_310) (fun _ h9 => h9) rfl hin rfl (by decide +kernel) rfl rfl (Nat.le_of_ble_eq_true rfl) dTR_init_29 (fun H locs hP hD hS => ?_)
  have hP : va_P (dC, dI) vwCl [(t, .inr (6, [.ref tp, .ref q_19, .ref q_27, .null, .ref q_6])), (tp, .inl (cI, nt, .inl (fun j => oI (g j)))), (q_6, .inl (cI, 3, .inl (fun j => nI (m_z j)))), (q_19, .inl (cI, nt, .inl (fun j => nI (m_z j)))), (q_27, .inl (cI, nt, .inl (fun j => nI (m_z j))))] H := hP
  have hD : va_D A [(t, .inr (6, [.ref tp, .ref q_19, .ref q_27, .null, .ref q_6])), (tp, .inl (cI, nt, .inl (fun j => oI (g j)))), (q_6, .inl (cI, 3, .inl (fun j => nI (m_z j)))), (q_19, .inl (cI, nt, .inl (fun j => nI (m_z j)))), (q_27, .inl (cI, nt, .inl (fun j => nI (m_z j))))] := hD
  refine lv_aload_n hx hb dTR_init_32 rfl (lv_at hl 0 rfl) ?_
  refine lv_aload_n hx hb dTR_init_33 rfl (lv_at hl 1 rfl) ?_
  refine va_alen (v := nI nt) hx hb hK hP 1 0 rfl rfl rfl dTR_init_34 ?_
  refine q_newab hx hb (hU hts u_218) hK hP hD hS hA (k := nt) (by omega) (Nat.le_of_ble_eq_true rfl) (Nat.le_trans (Nat.add_le_add_left (show nt ≤ 848 by omega) _) (Nat.le_of_ble_eq_true rfl)) dTR_init_35 (fun q_35 H hP hD hS => ?_)
  refine W.widen (k := 4) (n := 2547) (Nat.le_of_ble_eq_true rfl) (Nat.add_le_add_left (show nt ≤ 848 by omega) 1699) ?_
  have hP : va_P (dC, dI) vwCl [(t, .inr (6, [.ref tp, .ref q_19, .ref q_27, .null, .ref q_6])), (tp, .inl (cI, nt, .inl (fun j => oI (g j)))), (q_6, .inl (cI, 3, .inl (fun j => nI (m_z j)))), (q_19, .inl (cI, nt, .inl (fun j => nI (m_z j)))), (q_27, .inl (cI, nt, .inl (fun j => nI (m_z j)))), (q_35, .inl (cZ, nt, .inl (fun j => bI (m_f j))))] H := hP
  have hD : va_D A [(t, .inr (6, [.ref tp, .ref q_19, .ref q_27, .null, .ref q_6])), (tp, .inl (cI, nt, .inl (fun j => oI (g j)))), (q_6, .inl (cI, 3, .inl (fun j => nI (m_z j)))), (q_19, .inl (cI, nt, .inl (fun j => nI (m_z j)))), (q_27, .inl (cI, nt, .inl (fun j => nI (m_z j)))), (q_35, .inl (cZ, nt, .inl (fun j => bI (m_f j))))] := hD
  refine va_putF (D := (dC, dI)) (ci := 6) (v := .ref q_35) (ty := (.array .boolean)) (C := "PacketRows$Tree") (T := TTR) (N := 5) hx hb hts inTR tyTR tyTR_ok nmTR hown hK hP hD hS 0 rfl rfl 3 (by decide) (hU hts u_311) (fun _ h9 => h9) rfl hin rfl (by decide +kernel) rfl rfl (Nat.le_of_ble_eq_true rfl) dTR_init_37 (fun H locs hP hD hS => ?_)
  have hP : va_P (dC, dI) vwCl [(t, .inr (6, [.ref tp, .ref q_19, .ref q_27, .ref q_35, .ref q_6])), (tp, .inl (cI, nt, .inl (fun j => oI (g j)))), (q_6, .inl (cI, 3, .inl (fun j => nI (m_z j)))), (q_19, .inl (cI, nt, .inl (fun j => nI (m_z j)))), (q_27, .inl (cI, nt, .inl (fun j => nI (m_z j)))), (q_35, .inl (cZ, nt, .inl (fun j => bI (m_f j))))] H := hP
  have hD : va_D A [(t, .inr (6, [.ref tp, .ref q_19, .ref q_27, .ref q_35, .ref q_6])), (tp, .inl (cI, nt, .inl (fun j => oI (g j)))), (q_6, .inl (cI, 3, .inl (fun j => nI (m_z j)))), (q_19, .inl (cI, nt, .inl (fun j => nI (m_z j)))), (q_27, .inl (cI, nt, .inl (fun j => nI (m_z j)))), (q_35, .inl (cZ, nt, .inl (fun j => bI (m_f j))))] := hD
  have hP9 := hP.sub (ws' := [(t, .inr (6, [.ref tp, .ref q_19, .ref q_27, .ref q_35, .ref q_6])), (tp, .inl (cI, nt, .inl (fun j => oI (g j)))), (q_19, .inl (cI, nt, .inl (fun j => nI (m_z j)))), (q_27, .inl (cI, nt, .inl (fun j => nI (m_z j)))), (q_35, .inl (cZ, nt, .inl (fun j => bI (m_f j)))), (q_6, .inl (cI, 3, .inl (fun j => nI (m_z j))))]) [0, 1, 3, 4, 5, 2] rfl
  have hD9 := hD.sub (ws' := [(t, .inr (6, [.ref tp, .ref q_19, .ref q_27, .ref q_35, .ref q_6])), (tp, .inl (cI, nt, .inl (fun j => oI (g j)))), (q_19, .inl (cI, nt, .inl (fun j => nI (m_z j)))), (q_27, .inl (cI, nt, .inl (fun j => nI (m_z j)))), (q_35, .inl (cZ, nt, .inl (fun j => bI (m_f j)))), (q_6, .inl (cI, 3, .inl (fun j => nI (m_z j))))]) [0, 1, 3, 4, 5, 2] (by decide) rfl
  refine W.widen (k := 4) (n := 2547) (Nat.le_of_ble_eq_true rfl) (Nat.le_of_ble_eq_true rfl) ?_
  exact hret (q_19, q_27, q_35, q_6) _ _ _ _ dTR_init_40 trivial hP9 hD9 hS

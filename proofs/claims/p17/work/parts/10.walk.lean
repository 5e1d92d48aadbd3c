set_option maxHeartbeats 4000000 in
set_option maxRecDepth 100000 in
theorem k_PacketRows_isWithin (l : Launch) (dC : Nat → ClassId) (dI : Nat → Nat → Nat) (cI cZ cL : ClassId) (v lo hi : Int32)  :
    q_CP l (dC, dI) vwCl (tyL cI cZ cL) yPR_isWithin wsPR_isWithin (rmD 0) [.int v, .int lo, .int hi] [] (bI (decide (lo ≤ v ∧ v ≤ hi))) := by
  refine q_entP "PacketRows" (by decide) rfl (bI_nb _) rfl (Nat.le_of_ble_eq_true rfl) ?_
  intro p e s m below meth c ls Q hx hb hml hts hown hP hK hZ hl hret
  have hl : lv_has ls 3 [(0, .int v), (1, .int lo), (2, .int hi)] := hl
  refine lv_iload_n hx hb dPR_isWithin_0 rfl (lv_at hl 0 rfl) ?_
  refine lv_iload_n hx hb dPR_isWithin_1 rfl (lv_at hl 1 rfl) ?_
  have jn_15 : W p l e (headSpec wsPR_isWithin (rmD 0)).room s m [.int v, .int lo, .int hi].toArray below meth c s.heap [] 0 0 Q (F0 m 15 ls [.int (bI (decide (lo ≤ v ∧ v ≤ hi)))]) := by
    exact hret _ _ dPR_isWithin_15
  refine lv_icmp_lt (tgt := 14) hx hb dPR_isWithin_2 (by decide) (fun c_2 => ?_) (fun c_2 => ?_)
  · refine lv_iconst (v := nI 0) hx hb dPR_isWithin_14 (by decide +kernel) ?_
    exact qn_eq (by rw [decide_eq_false (fun h => by first | exact Int32.not_lt.mpr h.1 c_2 | exact Int32.not_lt.mpr h.2 c_7)]; rfl) jn_15
  · refine lv_iload_n hx hb dPR_isWithin_5 rfl (lv_at hl 0 rfl) ?_
    refine lv_iload_n hx hb dPR_isWithin_6 rfl (lv_at hl 2 rfl) ?_
    refine lv_icmp_gt (tgt := 14) hx hb dPR_isWithin_7 (by decide) (fun c_7 => ?_) (fun c_7 => ?_)
    · refine lv_iconst (v := nI 0) hx hb dPR_isWithin_14 (by decide +kernel) ?_
      exact qn_eq (by rw [decide_eq_false (fun h => by first | exact Int32.not_lt.mpr h.1 c_2 | exact Int32.not_lt.mpr h.2 c_7)]; rfl) jn_15
    · refine lv_iconst (v := nI 1) hx hb dPR_isWithin_10 (by decide +kernel) ?_
      refine lv_goto (tgt := 15) hx hb dPR_isWithin_11 (by decide) ?_
      exact qn_eq (by rw [decide_eq_true ⟨Int32.not_lt.mp c_2, Int32.not_lt.mp c_7⟩]; rfl) jn_15

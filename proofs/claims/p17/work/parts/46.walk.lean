set_option maxHeartbeats 4000000 in
set_option maxRecDepth 100000 in
theorem kg_firstOf (l : Launch) (dC : Nat → ClassId) (dI : Nat → Nat → Nat) (cI cZ cL : ClassId) (mo : Nat) (th : Nat) (mL : Nat) (mR : Nat) (mC : Nat) (kp : Nat) (kw : Nat) (kh : Nat) (kz : Nat) (kps : Nat) (jps : Nat → Nat) (kln : Nat) (krz : Nat) (krf : Nat) (krp : Nat) (krl : Nat) (ch : Nat) (mpt : Nat) (kpr : Nat) (mk : Nat) (kro : Nat) (kha : Nat) (fz : Bool) (kbe : Nat) (msz : Nat) (kby : Nat) (mf : Nat) (mov : Nat) (rds : Bool) (kgr : Nat) (klo : Nat) (kdo : Nat) (dr : Nat) (kdr : Nat) (mat : Nat) (mle : Nat) (mno : Nat) (mla : Nat) (ken : Nat) (ktu : Nat) (kda : Nat) (k : Nat) (hps : ∀ j, jps j ≤ 164) (hL : 1 ≤ mL ∧ mL ≤ 8) (hk : k < 1728) :
    q_CP l (dC, dI) vwCl (tyL cI cZ cL) yMO_firstOf wsMO_firstOf (rmD 0) [.ref mo, .int (nI k)] [(mo, .inr (9, [.int (nI th), .int (nI mL), .int (nI mR), .int (nI mC), .ref kp, .ref kw, .ref kh, .ref kz, .ref kps, .ref kln, .ref krz, .ref krf, .ref krp, .ref krl, .int (nI ch), .int (nI mpt), .ref kpr, .int (nI mk), .ref kro, .ref kha, .int (bI fz), .ref kbe, .int (nI msz), .ref kby, .int (nI mf), .int (nI mov), .int (bI rds), .ref kgr, .ref klo, .ref kdo, .int (nI dr), .ref kdr, .int (nI mat), .int (nI mle), .int (nI mno), .int (nI mla), .ref ken, .ref ktu, .ref kda])), (kps, .inl (cI, 13824, .inl (fun j => nI (jps j))))] (nI (r_first jps k mL)) := by
  refine q_entP "PacketRowsModel" (by decide) rfl rfl rfl (Nat.le_of_ble_eq_true rfl) ?_
  intro p e s m below meth c ls Q hx hb hml hts hown hP hK hZ hl hret
  have hl : lv_has ls 3 [(0, .ref mo), (1, .int (nI k))] := hl
  refine lv_iconst (v := nI 0) hx hb dMO_firstOf_0 (by decide +kernel) ?_
  refine lv_istore_n (lv' := [(2, .int (nI 0)), (0, .ref mo), (1, .int (nI k))]) hx hb dMO_firstOf_1 rfl hl (by decide) rfl (fun ls hl => ?_)
  have lp_2 : ∀ (fu : Nat) (i : Nat) (ls : Array Slot), mL - i < fu → (i ≤ mL) → (∀ j, j < i → jps (8 * k + j) = 0) → lv_has ls 3 [(2, .int (nI i)), (0, .ref mo), (1, .int (nI k))] → W p l e (headSpec wsMO_firstOf (rmD 0)).room s m [.ref mo, .int (nI k)].toArray below meth c s.heap [] 0 0 Q (F0 m 2 ls []) := by
    intro fu
    induction fu with
    | zero => intro i ls hmeas; exact absurd hmeas (Nat.not_lt_zero _)
    | succ fu ih_2 =>
      intro i ls hmeas hi hz hl
      refine lv_iload_n hx hb dMO_firstOf_2 rfl (lv_at hl 0 rfl) ?_
      refine lv_aload_n hx hb dMO_firstOf_3 rfl (lv_at hl 1 rfl) ?_
      refine va_get (D := (dC, dI)) (ci := 9) (v := .int (nI mL)) (C := "PacketRowsModel") (T := TMO) (N := 39) hx hb hts inMO hown hK hP 0 rfl rfl 1 (by decide) (hU hts u_1073) (fun _ h9 => h9) rfl dMO_firstOf_4 ?_
      refine qn_cge (tgt := 30) hx hb dMO_firstOf_7 (by decide) (by omega) (by omega) (fun c_7 => ?_) (fun c_7 => ?_)
      · refine lv_iload_n hx hb dMO_firstOf_30 rfl (lv_at hl 0 rfl) ?_
        exact qn_eq (by first | rw [r_first_at hz c_7 c_21] | rw [r_first_no (fun j hj => hz j (by omega)), show i = mL by omega]) (hret _ _ dMO_firstOf_31)
      · refine lv_aload_n hx hb dMO_firstOf_10 rfl (lv_at hl 1 rfl) ?_
        refine va_get (D := (dC, dI)) (ci := 9) (v := .ref kps) (C := "PacketRowsModel") (T := TMO) (N := 39) hx hb hts inMO hown hK hP 0 rfl rfl 8 (by decide) (hU hts u_1080) (fun _ h9 => h9) rfl dMO_firstOf_11 ?_
        refine lv_bipush (v := nI 8) hx hb dMO_firstOf_14 (by decide +kernel) ?_
        refine lv_iload_n hx hb dMO_firstOf_16 rfl (lv_at hl 2 rfl) ?_
        refine qn_imul hx hb dMO_firstOf_17 ?_
        refine lv_iload_n hx hb dMO_firstOf_18 rfl (lv_at hl 0 rfl) ?_
        refine qn_iadd hx hb dMO_firstOf_19 ?_
        refine qi_ald hx hb hK hP 1 0 rfl rfl (k := 8 * k + i) (by omega) (by omega) dMO_firstOf_20 ?_
        refine qn_ine (tgt := 30) hx hb dMO_firstOf_21 (by decide) (by have := hps (8 * k + i); omega) (fun c_21 => ?_) (fun c_21 => ?_)
        · refine lv_iload_n hx hb dMO_firstOf_30 rfl (lv_at hl 0 rfl) ?_
          exact qn_eq (by first | rw [r_first_at hz c_7 c_21] | rw [r_first_no (fun j hj => hz j (by omega)), show i = mL by omega]) (hret _ _ dMO_firstOf_31)
        · refine lv_iinc (v := nI (i + 1)) (lv' := [(2, .int (nI (i + 1))), (0, .ref mo), (1, .int (nI k))]) hx hb dMO_firstOf_24 hl (k := 0) rfl (nI_inc _) (by decide) rfl (fun ls hl => ?_)
          refine lv_goto (tgt := 2) hx hb dMO_firstOf_27 (by decide) ?_
          exact ih_2 (i + 1) _ (by omega) (by omega) (fun j hj => by rcases Nat.lt_succ_iff_lt_or_eq.mp hj with h | h; exact hz j h; subst h; omega) (lv_sub hl [0, 1, 2] rfl)
  exact lp_2 _ 0 _ (Nat.lt_succ_self _) (Nat.zero_le _) (fun j hj => absurd hj (Nat.not_lt_zero _)) (lv_sub hl [0, 1, 2] rfl)
set_option maxHeartbeats 4000000 in
set_option maxRecDepth 100000 in
theorem kg_across (l : Launch) (dC : Nat → ClassId) (dI : Nat → Nat → Nat) (cI cZ cL : ClassId) (w k : Nat) (hw : w ≤ 4) (hk : k ≤ 2) :
    q_CP l (dC, dI) vwCl (tyL cI cZ cL) yMO_across wsMO_across (rmD 0) [.int (nI w), .int (nI k)] [] (nI (m_acr w k)) := by
  refine q_entP "PacketRowsModel" (by decide) rfl rfl rfl (Nat.le_of_ble_eq_true rfl) ?_
  intro p e s m below meth c ls Q hx hb hml hts hown hP hK hZ hl hret
  have hl : lv_has ls 2 [(0, .int (nI w)), (1, .int (nI k))] := hl
  have h2 : 2 ^ k ≤ 2 ^ 2 := Nat.pow_le_pow_right (by omega) hk
  have h0 : 0 < 2 ^ k := Nat.pow_pos (by omega)
  refine lv_iload_n hx hb dMO_across_0 rfl (lv_at hl 0 rfl) ?_
  refine lv_iconst (v := nI 1) hx hb dMO_across_1 (by decide +kernel) ?_
  refine lv_iload_n hx hb dMO_across_2 rfl (lv_at hl 1 rfl) ?_
  refine qn_ishl hx hb dMO_across_3 (by omega) (by omega) ?_
  refine qn_iadd hx hb dMO_across_4 ?_
  refine lv_iconst (v := nI 1) hx hb dMO_across_5 (by decide +kernel) ?_
  refine qn_isub hx hb dMO_across_6 (by omega) ?_
  refine lv_iload_n hx hb dMO_across_7 rfl (lv_at hl 1 rfl) ?_
  refine qn_ishr hx hb dMO_across_8 (by omega) (by omega) ?_
  exact qn_eq rfl (hret _ _ dMO_across_9)
set_option maxHeartbeats 4000000 in
set_option maxRecDepth 100000 in
theorem kg_levels (l : Launch) (dC : Nat → ClassId) (dI : Nat → Nat → Nat) (cI cZ cL : ClassId) (mo : Nat) (th : Nat) (mL : Nat) (mR : Nat) (mC : Nat) (kp : Nat) (kw : Nat) (jw : Nat → Nat) (kh : Nat) (jh : Nat → Nat) (kz : Nat) (kps : Nat) (kln : Nat) (krz : Nat) (krf : Nat) (krp : Nat) (krl : Nat) (ch : Nat) (mpt : Nat) (kpr : Nat) (mk : Nat) (kro : Nat) (kha : Nat) (fz : Bool) (kbe : Nat) (msz : Nat) (kby : Nat) (mf : Nat) (mov : Nat) (rds : Bool) (kgr : Nat) (klo : Nat) (kdo : Nat) (dr : Nat) (kdr : Nat) (mat : Nat) (mle : Nat) (mno : Nat) (mla : Nat) (ken : Nat) (ktu : Nat) (kda : Nat) (g : Nat) (hg : g < 12) (hw : 1 ≤ jw g ∧ jw g ≤ 4) (hh : 1 ≤ jh g ∧ jh g ≤ 3) :
    q_CP l (dC, dI) vwCl (tyL cI cZ cL) yMO_levels wsMO_levels (rmD 0) [.ref mo, .int (nI g)] [(mo, .inr (9, [.int (nI th), .int (nI mL), .int (nI mR), .int (nI mC), .ref kp, .ref kw, .ref kh, .ref kz, .ref kps, .ref kln, .ref krz, .ref krf, .ref krp, .ref krl, .int (nI ch), .int (nI mpt), .ref kpr, .int (nI mk), .ref kro, .ref kha, .int (bI fz), .ref kbe, .int (nI msz), .ref kby, .int (nI mf), .int (nI mov), .int (bI rds), .ref kgr, .ref klo, .ref kdo, .int (nI dr), .ref kdr, .int (nI mat), .int (nI mle), .int (nI mno), .int (nI mla), .ref ken, .ref ktu, .ref kda])), (kw, .inl (cI, 12, .inl (fun j => nI (jw j)))), (kh, .inl (cI, 12, .inl (fun j => nI (jh j))))] (nI (m_lev (jw g) (jh g))) := by
  refine q_entP "PacketRowsModel" (by decide) rfl rfl rfl (Nat.le_of_ble_eq_true rfl) ?_
  intro p e s m below meth c ls Q hx hb hml hts hown hP hK hZ hl hret
  have hl : lv_has ls 3 [(0, .ref mo), (1, .int (nI g))] := hl
  refine lv_iconst (v := nI 0) hx hb dMO_levels_0 (by decide +kernel) ?_
  refine lv_istore_n (lv' := [(2, .int (nI 0)), (0, .ref mo), (1, .int (nI g))]) hx hb dMO_levels_1 rfl hl (by decide) rfl (fun ls hl => ?_)
  have lp_2 : ∀ (fu : Nat) (i : Nat) (ls : Array Slot), 2 - i < fu → (i ≤ 2) → (∀ j, j < i → ¬ (jw g ≤ 1 * 2 ^ j ∧ jh g ≤ 1 * 2 ^ j)) → lv_has ls 3 [(2, .int (nI i)), (0, .ref mo), (1, .int (nI g))] → W p l e (headSpec wsMO_levels (rmD 0)).room s m [.ref mo, .int (nI g)].toArray below meth c s.heap [] 0 0 Q (F0 m 2 ls []) := by
    intro fu
    induction fu with
    | zero => intro i ls hmeas; exact absurd hmeas (Nat.not_lt_zero _)
    | succ fu ih_2 =>
      intro i ls hmeas hi hz hl
      have h24 : 2 ^ i ≤ 2 ^ 2 := Nat.pow_le_pow_right (by omega) hi
      refine lv_aload_n hx hb dMO_levels_2 rfl (lv_at hl 1 rfl) ?_
      refine va_get (D := (dC, dI)) (ci := 9) (v := .ref kw) (C := "PacketRowsModel") (T := TMO) (N := 39) hx hb hts inMO hown hK hP 0 rfl rfl 5 (by decide) (hU hts u_1077) (fun _ h9 => h9) rfl dMO_levels_3 ?_
      refine lv_iload_n hx hb dMO_levels_6 rfl (lv_at hl 2 rfl) ?_
      refine qi_ald hx hb hK hP 1 0 rfl rfl (k := g) (by omega) (by omega) dMO_levels_7 ?_
      refine lv_iconst (v := nI 1) hx hb dMO_levels_8 (by decide +kernel) ?_
      refine lv_iload_n hx hb dMO_levels_9 rfl (lv_at hl 0 rfl) ?_
      refine qn_ishl hx hb dMO_levels_10 (by omega) (by omega) ?_
      refine qn_cgt (tgt := 26) hx hb dMO_levels_11 (by decide) (by omega) (by omega) (fun c_11 => ?_) (fun c_11 => ?_)
      · refine lv_iinc (v := nI (i + 1)) (lv' := [(2, .int (nI (i + 1))), (0, .ref mo), (1, .int (nI g))]) hx hb dMO_levels_26 hl (k := 0) rfl (nI_inc _) (by decide) rfl (fun ls hl => ?_)
        refine lv_goto (tgt := 2) hx hb dMO_levels_29 (by decide) ?_
        have hn9 : ¬ (jw g ≤ 1 * 2 ^ i ∧ jh g ≤ 1 * 2 ^ i) := fun q => by omega
        have hl9 := m_lev_lt hw.2 (by omega) hn9
        exact ih_2 (i + 1) _ (by omega) (by omega) (fun j hj => by rcases Nat.lt_succ_iff_lt_or_eq.mp hj with h | h; exact hz j h; subst h; exact hn9) (lv_sub hl [0, 1, 2] rfl)
      · refine lv_aload_n hx hb dMO_levels_14 rfl (lv_at hl 1 rfl) ?_
        refine va_get (D := (dC, dI)) (ci := 9) (v := .ref kh) (C := "PacketRowsModel") (T := TMO) (N := 39) hx hb hts inMO hown hK hP 0 rfl rfl 6 (by decide) (hU hts u_1078) (fun _ h9 => h9) rfl dMO_levels_15 ?_
        refine lv_iload_n hx hb dMO_levels_18 rfl (lv_at hl 2 rfl) ?_
        refine qi_ald hx hb hK hP 2 0 rfl rfl (k := g) (by omega) (by omega) dMO_levels_19 ?_
        refine lv_iconst (v := nI 1) hx hb dMO_levels_20 (by decide +kernel) ?_
        refine lv_iload_n hx hb dMO_levels_21 rfl (lv_at hl 0 rfl) ?_
        refine qn_ishl hx hb dMO_levels_22 (by omega) (by omega) ?_
        refine qn_cle (tgt := 32) hx hb dMO_levels_23 (by decide) (by omega) (by omega) (fun c_23 => ?_) (fun c_23 => ?_)
        · refine lv_iload_n hx hb dMO_levels_32 rfl (lv_at hl 0 rfl) ?_
          exact qn_eq (by rw [m_lev_at hw.2 (by omega) hz ⟨by omega, by omega⟩]) (hret _ _ dMO_levels_33)
        · refine lv_iinc (v := nI (i + 1)) (lv' := [(2, .int (nI (i + 1))), (0, .ref mo), (1, .int (nI g))]) hx hb dMO_levels_26 hl (k := 0) rfl (nI_inc _) (by decide) rfl (fun ls hl => ?_)
          refine lv_goto (tgt := 2) hx hb dMO_levels_29 (by decide) ?_
          have hn9 : ¬ (jw g ≤ 1 * 2 ^ i ∧ jh g ≤ 1 * 2 ^ i) := fun q => by omega
          have hl9 := m_lev_lt hw.2 (by omega) hn9
          exact ih_2 (i + 1) _ (by omega) (by omega) (fun j hj => by rcases Nat.lt_succ_iff_lt_or_eq.mp hj with h | h; exact hz j h; subst h; exact hn9) (lv_sub hl [0, 1, 2] rfl)
  exact lp_2 _ 0 _ (Nat.lt_succ_self _) (by omega) (fun j hj => absurd hj (Nat.not_lt_zero _)) (lv_sub hl [0, 1, 2] rfl)
set_option maxHeartbeats 4000000 in
set_option maxRecDepth 100000 in
theorem kg_offset (l : Launch) (dC : Nat → ClassId) (dI : Nat → Nat → Nat) (cI cZ cL : ClassId) (mo : Nat) (th : Nat) (mL : Nat) (mR : Nat) (mC : Nat) (kp : Nat) (kw : Nat) (jw : Nat → Nat) (kh : Nat) (jh : Nat → Nat) (kz : Nat) (kps : Nat) (kln : Nat) (krz : Nat) (krf : Nat) (krp : Nat) (krl : Nat) (ch : Nat) (mpt : Nat) (kpr : Nat) (mk : Nat) (kro : Nat) (kha : Nat) (fz : Bool) (kbe : Nat) (msz : Nat) (kby : Nat) (mf : Nat) (mov : Nat) (rds : Bool) (kgr : Nat) (klo : Nat) (kdo : Nat) (dr : Nat) (kdr : Nat) (mat : Nat) (mle : Nat) (mno : Nat) (mla : Nat) (ken : Nat) (ktu : Nat) (kda : Nat) (g k : Nat) (hg : g < 12) (hw : 1 ≤ jw g ∧ jw g ≤ 4) (hh : 1 ≤ jh g ∧ jh g ≤ 3) (hk : k ≤ 2) :
    q_CP l (dC, dI) vwCl (tyL cI cZ cL) yMO_offset wsMO_offset (rmD 1) [.ref mo, .int (nI g), .int (nI k)] [(mo, .inr (9, [.int (nI th), .int (nI mL), .int (nI mR), .int (nI mC), .ref kp, .ref kw, .ref kh, .ref kz, .ref kps, .ref kln, .ref krz, .ref krf, .ref krp, .ref krl, .int (nI ch), .int (nI mpt), .ref kpr, .int (nI mk), .ref kro, .ref kha, .int (bI fz), .ref kbe, .int (nI msz), .ref kby, .int (nI mf), .int (nI mov), .int (bI rds), .ref kgr, .ref klo, .ref kdo, .int (nI dr), .ref kdr, .int (nI mat), .int (nI mle), .int (nI mno), .int (nI mla), .ref ken, .ref ktu, .ref kda])), (kw, .inl (cI, 12, .inl (fun j => nI (jw j)))), (kh, .inl (cI, 12, .inl (fun j => nI (jh j))))] (nI (m_off (jw g) (jh g) k)) := by
  refine q_entP "PacketRowsModel" (by decide) rfl rfl rfl (Nat.le_of_ble_eq_true rfl) ?_
  intro p e s m below meth c ls Q hx hb hml hts hown hP hK hZ hl hret
  have hl : lv_has ls 5 [(0, .ref mo), (1, .int (nI g)), (2, .int (nI k))] := hl
  refine lv_iconst (v := nI 0) hx hb dMO_offset_0 (by decide +kernel) ?_
  refine lv_istore_n (lv' := [(3, .int (nI 0)), (0, .ref mo), (1, .int (nI g)), (2, .int (nI k))]) hx hb dMO_offset_1 rfl hl (by decide) rfl (fun ls hl => ?_)
  refine lv_iconst (v := nI 0) hx hb dMO_offset_2 (by decide +kernel) ?_
  refine lv_istore (lv' := [(4, .int (nI 0)), (3, .int (nI 0)), (0, .ref mo), (1, .int (nI g)), (2, .int (nI k))]) hx hb dMO_offset_3 hl (by decide) rfl (fun ls hl => ?_)
  have lp_5 : ∀ (fu : Nat) (i n : Nat) (ls : Array Slot), k - i < fu → (i ≤ k) → (n = m_off (jw g) (jh g) i) → lv_has ls 5 [(4, .int (nI i)), (3, .int (nI n)), (0, .ref mo), (1, .int (nI g)), (2, .int (nI k))] → W p l e (headSpec wsMO_offset (rmD 1)).room s m [.ref mo, .int (nI g), .int (nI k)].toArray below meth c s.heap [] 0 0 Q (F0 m 5 ls []) := by
    intro fu
    induction fu with
    | zero => intro i n ls hmeas; exact absurd hmeas (Nat.not_lt_zero _)
    | succ fu ih_5 =>
      intro i n ls hmeas hi hf hl
      refine lv_iload hx hb dMO_offset_5 (lv_at hl 0 rfl) ?_
      refine lv_iload_n hx hb dMO_offset_7 rfl (lv_at hl 4 rfl) ?_
      refine qn_cge (tgt := 43) hx hb dMO_offset_8 (by decide) (by omega) (by omega) (fun c_8 => ?_) (fun c_8 => ?_)
      · refine lv_iload_n hx hb dMO_offset_43 rfl (lv_at hl 1 rfl) ?_
        exact qn_eq (by rw [hf, show i = k by omega]) (hret _ _ dMO_offset_44)
      · refine lv_iload_n hx hb dMO_offset_11 rfl (lv_at hl 1 rfl) ?_
        refine lv_aload_n hx hb dMO_offset_12 rfl (lv_at hl 2 rfl) ?_
        refine va_get (D := (dC, dI)) (ci := 9) (v := .ref kw) (C := "PacketRowsModel") (T := TMO) (N := 39) hx hb hts inMO hown hK hP 0 rfl rfl 5 (by decide) (hU hts u_1077) (fun _ h9 => h9) rfl dMO_offset_13 ?_
        refine lv_iload_n hx hb dMO_offset_16 rfl (lv_at hl 3 rfl) ?_
        refine qi_ald hx hb hK hP 1 0 rfl rfl (k := g) (by omega) (by omega) dMO_offset_17 ?_
        refine lv_iload hx hb dMO_offset_18 (lv_at hl 0 rfl) ?_
        refine vp_callSi (W.runS (As := [.int (nI (jw g)), .int (nI i)]) (rest := [.int (nI n)]) ⟨hx, hb, hml, hown, hts⟩ (kg_across l dC dI cI cZ cL (jw g) i hw.2 (by omega)) (va_cwS 2 hts (gS u_1320 u_1321 u_51 u_1322) rfl rfl rfl (by decide +kernel) ⟨Nat.le_of_ble_eq_true rfl, Nat.le_of_ble_eq_true rfl⟩) (q_preP hK hZ hP [] rfl) rfl rfl hl.1 rfl (lv_room (Nat.le_of_ble_eq_true rfl)) dMO_offset_20 ⟨Nat.le_of_ble_eq_true rfl, Nat.le_of_ble_eq_true rfl⟩) (fun r_ er_ => ?_)
        subst er_
        refine lv_aload_n hx hb dMO_offset_23 rfl (lv_at hl 2 rfl) ?_
        refine va_get (D := (dC, dI)) (ci := 9) (v := .ref kh) (C := "PacketRowsModel") (T := TMO) (N := 39) hx hb hts inMO hown hK hP 0 rfl rfl 6 (by decide) (hU hts u_1078) (fun _ h9 => h9) rfl dMO_offset_24 ?_
        refine lv_iload_n hx hb dMO_offset_27 rfl (lv_at hl 3 rfl) ?_
        refine qi_ald hx hb hK hP 2 0 rfl rfl (k := g) (by omega) (by omega) dMO_offset_28 ?_
        refine lv_iload hx hb dMO_offset_29 (lv_at hl 0 rfl) ?_
        refine vp_callSi (W.runS (As := [.int (nI (jh g)), .int (nI i)]) (rest := [.int (nI (m_acr (jw g) i)), .int (nI n)]) ⟨hx, hb, hml, hown, hts⟩ (kg_across l dC dI cI cZ cL (jh g) i (by omega) (by omega)) (va_cwS 2 hts (gS u_1320 u_1321 u_51 u_1322) rfl rfl rfl (by decide +kernel) ⟨Nat.le_of_ble_eq_true rfl, Nat.le_of_ble_eq_true rfl⟩) (q_preP hK hZ hP [] rfl) rfl rfl hl.1 rfl (lv_room (Nat.le_of_ble_eq_true rfl)) dMO_offset_31 ⟨Nat.le_of_ble_eq_true rfl, Nat.le_of_ble_eq_true rfl⟩) (fun r_ er_ => ?_)
        subst er_
        refine qn_imul hx hb dMO_offset_34 ?_
        refine qn_iadd hx hb dMO_offset_35 ?_
        refine lv_istore_n (lv' := [(3, .int (nI (n + ((m_acr (jw g) i) * (m_acr (jh g) i))))), (4, .int (nI i)), (0, .ref mo), (1, .int (nI g)), (2, .int (nI k))]) hx hb dMO_offset_36 rfl hl (by decide) rfl (fun ls hl => ?_)
        refine lv_iinc (v := nI (i + 1)) (lv' := [(4, .int (nI (i + 1))), (3, .int (nI (n + ((m_acr (jw g) i) * (m_acr (jh g) i))))), (0, .ref mo), (1, .int (nI g)), (2, .int (nI k))]) hx hb dMO_offset_37 hl (k := 1) rfl (nI_inc _) (by decide) rfl (fun ls hl => ?_)
        refine lv_goto (tgt := 5) hx hb dMO_offset_40 (by decide) ?_
        exact ih_5 (i + 1) (n + m_acr (jw g) i * m_acr (jh g) i) _ (by omega) (by omega) (by rw [m_off, ← hf]) (lv_sub hl [0, 1, 2, 3, 4] rfl)
  exact lp_5 _ 0 0 _ (Nat.lt_succ_self _) (Nat.zero_le _) rfl (lv_sub hl [0, 1, 2, 3, 4] rfl)
set_option maxHeartbeats 4000000 in
set_option maxRecDepth 100000 in
theorem kg_least (l : Launch) (dC : Nat → ClassId) (dI : Nat → Nat → Nat) (cI cZ cL : ClassId) (mo : Nat) (th : Nat) (mL : Nat) (mR : Nat) (mC : Nat) (kp : Nat) (kw : Nat) (jw : Nat → Nat) (kh : Nat) (jh : Nat → Nat) (kz : Nat) (jz : Nat → Nat) (kps : Nat) (jps : Nat → Nat) (kln : Nat) (krz : Nat) (krf : Nat) (krp : Nat) (krl : Nat) (ch : Nat) (mpt : Nat) (kpr : Nat) (mk : Nat) (kro : Nat) (kha : Nat) (fz : Bool) (kbe : Nat) (msz : Nat) (kby : Nat) (mf : Nat) (mov : Nat) (rds : Bool) (kgr : Nat) (klo : Nat) (kdo : Nat) (dr : Nat) (kdr : Nat) (mat : Nat) (mle : Nat) (mno : Nat) (mla : Nat) (ken : Nat) (ktu : Nat) (kda : Nat) (g base : Nat) (zr : Bool) (lv xx yy : Nat) (hg : g < 12) (hw : 1 ≤ jw g ∧ jw g ≤ 4) (hh : 1 ≤ jh g ∧ jh g ≤ 3) (hps : ∀ j, jps j ≤ 164) (hL : 1 ≤ mL ∧ mL ≤ 8) (hjz : ∀ j, jz j ≤ 30) (hb9 : base + 12 ≤ 1728) (hlv : lv ≤ 2) (hxx : xx < 2 ^ 20) (hyy : yy < 2 ^ 20) :
    q_CP l (dC, dI) vwCl (tyL cI cZ cL) yMO_least wsMO_least (rmD 1) [.ref mo, .int (nI g), .int (nI base), .int (bI zr), .int (nI lv), .int (nI xx), .int (nI yy)] [(mo, .inr (9, [.int (nI th), .int (nI mL), .int (nI mR), .int (nI mC), .ref kp, .ref kw, .ref kh, .ref kz, .ref kps, .ref kln, .ref krz, .ref krf, .ref krp, .ref krl, .int (nI ch), .int (nI mpt), .ref kpr, .int (nI mk), .ref kro, .ref kha, .int (bI fz), .ref kbe, .int (nI msz), .ref kby, .int (nI mf), .int (nI mov), .int (bI rds), .ref kgr, .ref klo, .ref kdo, .int (nI dr), .ref kdr, .int (nI mat), .int (nI mle), .int (nI mno), .int (nI mla), .ref ken, .ref ktu, .ref kda])), (kw, .inl (cI, 12, .inl (fun j => nI (jw j)))), (kh, .inl (cI, 12, .inl (fun j => nI (jh j)))), (kz, .inl (cI, 1728, .inl (fun j => nI (jz j)))), (kps, .inl (cI, 13824, .inl (fun j => nI (jps j))))] (nI (m_lst (r_own zr jz jps mL base) (jw g) lv xx yy (jw g * jh g))) := by
  refine q_entP "PacketRowsModel" (by decide) rfl rfl rfl (Nat.le_of_ble_eq_true rfl) ?_
  intro p e s m below meth c ls Q hx hb hml hts hown hP hK hZ hl hret
  have hl : lv_has ls 11 [(0, .ref mo), (1, .int (nI g)), (2, .int (nI base)), (3, .int (bI zr)), (4, .int (nI lv)), (5, .int (nI xx)), (6, .int (nI yy))] := hl
  have hwh : jw g * jh g ≤ 4 * 3 := Nat.mul_le_mul hw.2 hh.2
  refine lv_sipush (v := nI 1000) hx hb dMO_least_0 (by decide +kernel) ?_
  refine lv_istore (lv' := [(7, .int (nI 1000)), (0, .ref mo), (1, .int (nI g)), (2, .int (nI base)), (3, .int (bI zr)), (4, .int (nI lv)), (5, .int (nI xx)), (6, .int (nI yy))]) hx hb dMO_least_3 hl (by decide) rfl (fun ls hl => ?_)
  refine lv_iconst (v := nI 0) hx hb dMO_least_5 (by decide +kernel) ?_
  refine lv_istore (lv' := [(8, .int (nI 0)), (7, .int (nI 1000)), (0, .ref mo), (1, .int (nI g)), (2, .int (nI base)), (3, .int (bI zr)), (4, .int (nI lv)), (5, .int (nI xx)), (6, .int (nI yy))]) hx hb dMO_least_6 hl (by decide) rfl (fun ls hl => ?_)
  have lp_8 : ∀ (fu : Nat) (i v : Nat) (ls : Array Slot), jw g * jh g - i < fu → (i ≤ jw g * jh g) → (v = m_lst (r_own zr jz jps mL base) (jw g) lv xx yy i) → lv_has ls 11 [(8, .int (nI i)), (7, .int (nI v)), (0, .ref mo), (1, .int (nI g)), (2, .int (nI base)), (3, .int (bI zr)), (4, .int (nI lv)), (5, .int (nI xx)), (6, .int (nI yy))] → W p l e (headSpec wsMO_least (rmD 1)).room s m [.ref mo, .int (nI g), .int (nI base), .int (bI zr), .int (nI lv), .int (nI xx), .int (nI yy)].toArray below meth c s.heap [] 0 0 Q (F0 m 8 ls []) := by
    intro fu
    induction fu with
    | zero => intro i v ls hmeas; exact absurd hmeas (Nat.not_lt_zero _)
    | succ fu ih_8 =>
      intro i v ls hmeas hi hf hl
      have hv9 : v ≤ 1000 := by rw [hf]; exact m_lst_le _ _ _ _ _ _
      have ho9 : r_own zr jz jps mL base i ≤ 30 := by unfold r_own; split; exact hjz _; exact Nat.le_trans (r_first_le _ _ _) (by omega)
      refine lv_iload hx hb dMO_least_8 (lv_at hl 0 rfl) ?_
      refine lv_aload_n hx hb dMO_least_10 rfl (lv_at hl 2 rfl) ?_
      refine va_get (D := (dC, dI)) (ci := 9) (v := .ref kw) (C := "PacketRowsModel") (T := TMO) (N := 39) hx hb hts inMO hown hK hP 0 rfl rfl 5 (by decide) (hU hts u_1077) (fun _ h9 => h9) rfl dMO_least_11 ?_
      refine lv_iload_n hx hb dMO_least_14 rfl (lv_at hl 3 rfl) ?_
      refine qi_ald hx hb hK hP 1 0 rfl rfl (k := g) (by omega) (by omega) dMO_least_15 ?_
      refine lv_aload_n hx hb dMO_least_16 rfl (lv_at hl 2 rfl) ?_
      refine va_get (D := (dC, dI)) (ci := 9) (v := .ref kh) (C := "PacketRowsModel") (T := TMO) (N := 39) hx hb hts inMO hown hK hP 0 rfl rfl 6 (by decide) (hU hts u_1078) (fun _ h9 => h9) rfl dMO_least_17 ?_
      refine lv_iload_n hx hb dMO_least_20 rfl (lv_at hl 3 rfl) ?_
      refine qi_ald hx hb hK hP 2 0 rfl rfl (k := g) (by omega) (by omega) dMO_least_21 ?_
      refine qn_imul hx hb dMO_least_22 ?_
      refine qn_cge (tgt := 120) hx hb dMO_least_23 (by decide) (by omega) (by omega) (fun c_23 => ?_) (fun c_23 => ?_)
      · refine lv_iload hx hb dMO_least_120 (lv_at hl 1 rfl) ?_
        exact qn_eq (by rw [hf, show i = jw g * jh g by omega]) (hret _ _ dMO_least_122)
      · refine lv_iload hx hb dMO_least_26 (lv_at hl 0 rfl) ?_
        refine lv_aload_n hx hb dMO_least_28 rfl (lv_at hl 2 rfl) ?_
        refine va_get (D := (dC, dI)) (ci := 9) (v := .ref kw) (C := "PacketRowsModel") (T := TMO) (N := 39) hx hb hts inMO hown hK hP 0 rfl rfl 5 (by decide) (hU hts u_1077) (fun _ h9 => h9) rfl dMO_least_29 ?_
        refine lv_iload_n hx hb dMO_least_32 rfl (lv_at hl 3 rfl) ?_
        refine qi_ald hx hb hK hP 1 0 rfl rfl (k := g) (by omega) (by omega) dMO_least_33 ?_
        refine qn_irem hx hb dMO_least_34 (by omega) (by omega) (by omega) ?_
        refine lv_iload hx hb dMO_least_35 (lv_at hl 6 rfl) ?_
        refine qn_ishr hx hb dMO_least_37 (Nat.lt_of_le_of_lt (Nat.mod_le _ _) (by omega)) (by omega) ?_
        refine lv_iload hx hb dMO_least_38 (lv_at hl 7 rfl) ?_
        have jn_65 : W p l e (headSpec wsMO_least (rmD 1)).room s m [.ref mo, .int (nI g), .int (nI base), .int (bI zr), .int (nI lv), .int (nI xx), .int (nI yy)].toArray below meth c s.heap [] 0 0 Q (F0 m 65 ls [.int (bI (decide (i % jw g / 2 ^ lv = xx ∧ i / jw g / 2 ^ lv = yy)))]) := by
          refine lv_istore (lv' := [(9, .int (bI (decide (i % jw g / 2 ^ lv = xx ∧ i / jw g / 2 ^ lv = yy)))), (8, .int (nI i)), (7, .int (nI v)), (0, .ref mo), (1, .int (nI g)), (2, .int (nI base)), (3, .int (bI zr)), (4, .int (nI lv)), (5, .int (nI xx)), (6, .int (nI yy))]) hx hb dMO_least_65 hl (by decide) rfl (fun ls hl => ?_)
          refine lv_iload_n hx hb dMO_least_67 rfl (lv_at hl 6 rfl) ?_
          have jn_91 : W p l e (headSpec wsMO_least (rmD 1)).room s m [.ref mo, .int (nI g), .int (nI base), .int (bI zr), .int (nI lv), .int (nI xx), .int (nI yy)].toArray below meth c s.heap [] 0 0 Q (F0 m 91 ls [.int (nI (r_own zr jz jps mL base i))]) := by
            refine lv_istore (lv' := [(10, .int (nI (r_own zr jz jps mL base i))), (9, .int (bI (decide (i % jw g / 2 ^ lv = xx ∧ i / jw g / 2 ^ lv = yy)))), (8, .int (nI i)), (7, .int (nI v)), (0, .ref mo), (1, .int (nI g)), (2, .int (nI base)), (3, .int (bI zr)), (4, .int (nI lv)), (5, .int (nI xx)), (6, .int (nI yy))]) hx hb dMO_least_91 hl (by decide) rfl (fun ls hl => ?_)
            refine lv_iload hx hb dMO_least_93 (lv_at hl 1 rfl) ?_
            have jn_112 : W p l e (headSpec wsMO_least (rmD 1)).room s m [.ref mo, .int (nI g), .int (nI base), .int (bI zr), .int (nI lv), .int (nI xx), .int (nI yy)].toArray below meth c s.heap [] 0 0 Q (F0 m 112 ls [.int (nI (if (i % jw g / 2 ^ lv = xx ∧ i / jw g / 2 ^ lv = yy) ∧ r_own zr jz jps mL base i < v then r_own zr jz jps mL base i else v))]) := by
              refine lv_istore (lv' := [(7, .int (nI (if (i % jw g / 2 ^ lv = xx ∧ i / jw g / 2 ^ lv = yy) ∧ r_own zr jz jps mL base i < v then r_own zr jz jps mL base i else v))), (10, .int (nI (r_own zr jz jps mL base i))), (9, .int (bI (decide (i % jw g / 2 ^ lv = xx ∧ i / jw g / 2 ^ lv = yy)))), (8, .int (nI i)), (0, .ref mo), (1, .int (nI g)), (2, .int (nI base)), (3, .int (bI zr)), (4, .int (nI lv)), (5, .int (nI xx)), (6, .int (nI yy))]) hx hb dMO_least_112 hl (by decide) rfl (fun ls hl => ?_)
              refine lv_iinc (v := nI (i + 1)) (lv' := [(8, .int (nI (i + 1))), (7, .int (nI (if (i % jw g / 2 ^ lv = xx ∧ i / jw g / 2 ^ lv = yy) ∧ r_own zr jz jps mL base i < v then r_own zr jz jps mL base i else v))), (10, .int (nI (r_own zr jz jps mL base i))), (9, .int (bI (decide (i % jw g / 2 ^ lv = xx ∧ i / jw g / 2 ^ lv = yy)))), (0, .ref mo), (1, .int (nI g)), (2, .int (nI base)), (3, .int (bI zr)), (4, .int (nI lv)), (5, .int (nI xx)), (6, .int (nI yy))]) hx hb dMO_least_114 hl (k := 3) rfl (nI_inc _) (by decide) rfl (fun ls hl => ?_)
              refine lv_goto (tgt := 8) hx hb dMO_least_117 (by decide) ?_
              exact ih_8 (i + 1) (if (i % jw g / 2 ^ lv = xx ∧ i / jw g / 2 ^ lv = yy) ∧ r_own zr jz jps mL base i < v then r_own zr jz jps mL base i else v) _ (by omega) (by omega) (by rw [m_lst, ← hf]) (lv_sub hl [0, 1, 4, 5, 6, 7, 8, 9, 10] rfl)
            refine qb_ieq (tgt := 110) hx hb dMO_least_95 (by decide) (fun c_95 => ?_) (fun c_95 => ?_)
            · refine lv_iload hx hb dMO_least_110 (lv_at hl 3 rfl) ?_
              exact qn_eq (by first | (rw [if_pos (show (i % jw g / 2 ^ lv = xx ∧ i / jw g / 2 ^ lv = yy) ∧ r_own zr jz jps mL base i < v from ⟨of_decide_eq_true c_95, c_102⟩)]) | (rw [if_neg (show ¬ ((i % jw g / 2 ^ lv = xx ∧ i / jw g / 2 ^ lv = yy) ∧ r_own zr jz jps mL base i < v) from fun q => by first | exact absurd q.1 (of_decide_eq_false c_95) | (have := q.2; omega))])) jn_112
            · refine lv_iload hx hb dMO_least_98 (lv_at hl 0 rfl) ?_
              refine lv_iload hx hb dMO_least_100 (lv_at hl 3 rfl) ?_
              refine qn_cge (tgt := 110) hx hb dMO_least_102 (by decide) (by omega) (by omega) (fun c_102 => ?_) (fun c_102 => ?_)
              · refine lv_iload hx hb dMO_least_110 (lv_at hl 3 rfl) ?_
                exact qn_eq (by first | (rw [if_pos (show (i % jw g / 2 ^ lv = xx ∧ i / jw g / 2 ^ lv = yy) ∧ r_own zr jz jps mL base i < v from ⟨of_decide_eq_true c_95, c_102⟩)]) | (rw [if_neg (show ¬ ((i % jw g / 2 ^ lv = xx ∧ i / jw g / 2 ^ lv = yy) ∧ r_own zr jz jps mL base i < v) from fun q => by first | exact absurd q.1 (of_decide_eq_false c_95) | (have := q.2; omega))])) jn_112
              · refine lv_iload hx hb dMO_least_105 (lv_at hl 0 rfl) ?_
                refine lv_goto (tgt := 112) hx hb dMO_least_107 (by decide) ?_
                exact qn_eq (by first | (rw [if_pos (show (i % jw g / 2 ^ lv = xx ∧ i / jw g / 2 ^ lv = yy) ∧ r_own zr jz jps mL base i < v from ⟨of_decide_eq_true c_95, c_102⟩)]) | (rw [if_neg (show ¬ ((i % jw g / 2 ^ lv = xx ∧ i / jw g / 2 ^ lv = yy) ∧ r_own zr jz jps mL base i < v) from fun q => by first | exact absurd q.1 (of_decide_eq_false c_95) | (have := q.2; omega))])) jn_112
          refine qb_ieq (tgt := 83) hx hb dMO_least_68 (by decide) (fun c_68 => ?_) (fun c_68 => ?_)
          · refine lv_aload_n hx hb dMO_least_83 rfl (lv_at hl 3 rfl) ?_
            refine lv_iload_n hx hb dMO_least_84 rfl (lv_at hl 5 rfl) ?_
            refine lv_iload hx hb dMO_least_85 (lv_at hl 1 rfl) ?_
            refine qn_iadd hx hb dMO_least_87 ?_
            refine vp_callSi (W.runV (As := [.int (nI (base + i))]) (rest := []) ⟨hx, hb, hml, hown, hts⟩ (kg_firstOf l dC dI cI cZ cL mo th mL mR mC kp kw kh kz kps jps kln krz krf krp krl ch mpt kpr mk kro kha fz kbe msz kby mf mov rds kgr klo kdo dr kdr mat mle mno mla ken ktu kda (base + i) hps hL (by omega)) (cwV 1 hts (gV u_1304 u_1306 u_29 u_51 u_1307) rfl rfl rfl (by decide +kernel) ⟨Nat.le_of_ble_eq_true rfl, Nat.le_of_ble_eq_true rfl⟩) (q_prePV hK hZ hP [0, 4] rfl rfl rfl) rfl rfl hl.1 rfl (lv_room (Nat.le_of_ble_eq_true rfl)) dMO_least_88 ⟨Nat.le_of_ble_eq_true rfl, Nat.le_of_ble_eq_true rfl⟩) (fun r_ er_ => ?_)
            subst er_
            exact qn_eq (by unfold r_own; first | rw [if_pos (show zr = true from c_68)] | rw [if_neg (show ¬ zr = true from by rw [c_68]; decide)]) jn_91
          · refine lv_aload_n hx hb dMO_least_71 rfl (lv_at hl 3 rfl) ?_
            refine va_get (D := (dC, dI)) (ci := 9) (v := .ref kz) (C := "PacketRowsModel") (T := TMO) (N := 39) hx hb hts inMO hown hK hP 0 rfl rfl 7 (by decide) (hU hts u_1079) (fun _ h9 => h9) rfl dMO_least_72 ?_
            refine lv_iload_n hx hb dMO_least_75 rfl (lv_at hl 5 rfl) ?_
            refine lv_iload hx hb dMO_least_76 (lv_at hl 1 rfl) ?_
            refine qn_iadd hx hb dMO_least_78 ?_
            refine qi_ald hx hb hK hP 3 0 rfl rfl (k := base + i) (by omega) (by omega) dMO_least_79 ?_
            refine lv_goto (tgt := 91) hx hb dMO_least_80 (by decide) ?_
            exact qn_eq (by unfold r_own; first | rw [if_pos (show zr = true from c_68)] | rw [if_neg (show ¬ zr = true from by rw [c_68]; decide)]) jn_91
        refine qn_cne (tgt := 64) hx hb dMO_least_40 (by decide) (Nat.lt_of_le_of_lt (Nat.div_le_self _ _) (Nat.lt_of_le_of_lt (Nat.mod_le _ _) (by omega))) (by omega) (fun c_40 => ?_) (fun c_40 => ?_)
        · refine lv_iconst (v := nI 0) hx hb dMO_least_64 (by decide +kernel) ?_
          exact qn_eq (by first | (rw [decide_eq_true (show (i % jw g / 2 ^ lv = xx ∧ i / jw g / 2 ^ lv = yy) from ⟨c_40, c_57⟩)]; rfl) | (rw [decide_eq_false (show ¬ (i % jw g / 2 ^ lv = xx ∧ i / jw g / 2 ^ lv = yy) from fun q => by first | exact c_40 q.1 | exact c_57 q.2)]; rfl)) jn_65
        · refine lv_iload hx hb dMO_least_43 (lv_at hl 0 rfl) ?_
          refine lv_aload_n hx hb dMO_least_45 rfl (lv_at hl 2 rfl) ?_
          refine va_get (D := (dC, dI)) (ci := 9) (v := .ref kw) (C := "PacketRowsModel") (T := TMO) (N := 39) hx hb hts inMO hown hK hP 0 rfl rfl 5 (by decide) (hU hts u_1077) (fun _ h9 => h9) rfl dMO_least_46 ?_
          refine lv_iload_n hx hb dMO_least_49 rfl (lv_at hl 3 rfl) ?_
          refine qi_ald hx hb hK hP 1 0 rfl rfl (k := g) (by omega) (by omega) dMO_least_50 ?_
          refine qn_idiv hx hb dMO_least_51 (by omega) (by omega) (by omega) ?_
          refine lv_iload hx hb dMO_least_52 (lv_at hl 6 rfl) ?_
          refine qn_ishr hx hb dMO_least_54 (Nat.lt_of_le_of_lt (Nat.div_le_self _ _) (by omega)) (by omega) ?_
          refine lv_iload hx hb dMO_least_55 (lv_at hl 8 rfl) ?_
          refine qn_cne (tgt := 64) hx hb dMO_least_57 (by decide) (Nat.lt_of_le_of_lt (Nat.div_le_self _ _) (Nat.lt_of_le_of_lt (Nat.div_le_self _ _) (by omega))) (by omega) (fun c_57 => ?_) (fun c_57 => ?_)
          · refine lv_iconst (v := nI 0) hx hb dMO_least_64 (by decide +kernel) ?_
            exact qn_eq (by first | (rw [decide_eq_true (show (i % jw g / 2 ^ lv = xx ∧ i / jw g / 2 ^ lv = yy) from ⟨c_40, c_57⟩)]; rfl) | (rw [decide_eq_false (show ¬ (i % jw g / 2 ^ lv = xx ∧ i / jw g / 2 ^ lv = yy) from fun q => by first | exact c_40 q.1 | exact c_57 q.2)]; rfl)) jn_65
          · refine lv_iconst (v := nI 1) hx hb dMO_least_60 (by decide +kernel) ?_
            refine lv_goto (tgt := 65) hx hb dMO_least_61 (by decide) ?_
            exact qn_eq (by rw [decide_eq_true ⟨c_40, c_57⟩]; rfl) jn_65
  exact lp_8 _ 0 1000 _ (Nat.lt_succ_self _) (Nat.zero_le _) rfl (lv_sub hl [0, 1, 2, 3, 4, 5, 6, 7, 8] rfl)
set_option maxHeartbeats 4000000 in
set_option maxRecDepth 100000 in
theorem kg_isDone (l : Launch) (dC : Nat → ClassId) (dI : Nat → Nat → Nat) (cI cZ cL : ClassId) (mo : Nat) (th : Nat) (mL : Nat) (mR : Nat) (mC : Nat) (kp : Nat) (kw : Nat) (kh : Nat) (kz : Nat) (kps : Nat) (kln : Nat) (krz : Nat) (krf : Nat) (krp : Nat) (krl : Nat) (ch : Nat) (mpt : Nat) (kpr : Nat) (mk : Nat) (kro : Nat) (kha : Nat) (fz : Bool) (kbe : Nat) (msz : Nat) (kby : Nat) (mf : Nat) (mov : Nat) (rds : Bool) (kgr : Nat) (klo : Nat) (kdo : Nat) (jdo : Nat → Bool) (dr : Nat) (kdr : Nat) (mat : Nat) (mle : Nat) (mno : Nat) (mla : Nat) (ken : Nat) (ktu : Nat) (kda : Nat) (t k : Nat) (h1 : t + k < 4896) :
    q_CP l (dC, dI) vwCl (tyL cI cZ cL) yMO_isDone wsMO_isDone (rmD 0) [.ref mo, .int (nI t), .int (nI k)] [(mo, .inr (9, [.int (nI th), .int (nI mL), .int (nI mR), .int (nI mC), .ref kp, .ref kw, .ref kh, .ref kz, .ref kps, .ref kln, .ref krz, .ref krf, .ref krp, .ref krl, .int (nI ch), .int (nI mpt), .ref kpr, .int (nI mk), .ref kro, .ref kha, .int (bI fz), .ref kbe, .int (nI msz), .ref kby, .int (nI mf), .int (nI mov), .int (bI rds), .ref kgr, .ref klo, .ref kdo, .int (nI dr), .ref kdr, .int (nI mat), .int (nI mle), .int (nI mno), .int (nI mla), .ref ken, .ref ktu, .ref kda])), (kdo, .inl (cZ, 4896, .inl (fun j => bI (jdo j))))] (bI (jdo (t + k))) := by
  refine q_entP "PacketRowsModel" (by decide) rfl (bI_nb _) rfl (Nat.le_of_ble_eq_true rfl) ?_
  intro p e s m below meth c ls Q hx hb hml hts hown hP hK hZ hl hret
  have hl : lv_has ls 3 [(0, .ref mo), (1, .int (nI t)), (2, .int (nI k))] := hl
  refine lv_aload_n hx hb dMO_isDone_0 rfl (lv_at hl 0 rfl) ?_
  refine va_get (D := (dC, dI)) (ci := 9) (v := .ref kdo) (C := "PacketRowsModel") (T := TMO) (N := 39) hx hb hts inMO hown hK hP 0 rfl rfl 29 (by decide) (hU hts u_1101) (fun _ h9 => h9) rfl dMO_isDone_1 ?_
  refine lv_iload_n hx hb dMO_isDone_4 rfl (lv_at hl 1 rfl) ?_
  refine lv_iload_n hx hb dMO_isDone_5 rfl (lv_at hl 2 rfl) ?_
  refine qn_iadd hx hb dMO_isDone_6 ?_
  refine qz_ald hx hb hK hP 1 1 rfl rfl (k := t + k) (by omega) (by omega) dMO_isDone_7 ?_
  exact hret _ _ dMO_isDone_8
set_option maxHeartbeats 4000000 in
set_option maxRecDepth 100000 in
theorem kg_log (l : Launch) (dC : Nat → ClassId) (dI : Nat → Nat → Nat) (cI cZ cL : ClassId) (x : Nat) (h1 : x ≤ 164) :
    q_CP l (dC, dI) vwCl (tyL cI cZ cL) yMO_log wsMO_log (rmD 0) [.int (nI x)] [] (nI (m_pow x)) := by
  refine q_entP "PacketRowsModel" (by decide) rfl rfl rfl (Nat.le_of_ble_eq_true rfl) ?_
  intro p e s m below meth c ls Q hx hb hml hts hown hP hK hZ hl hret
  have hl : lv_has ls 2 [(0, .int (nI x))] := hl
  refine lv_iconst (v := nI 0) hx hb dMO_log_0 (by decide +kernel) ?_
  refine lv_istore_n (lv' := [(1, .int (nI 0)), (0, .int (nI x))]) hx hb dMO_log_1 rfl hl (by decide) rfl (fun ls hl => ?_)
  have lp_2 : ∀ (fu : Nat) (i : Nat) (ls : Array Slot), 8 - i < fu → (i ≤ 8) → (m_pw x (8 - i) i = m_pow x) → lv_has ls 2 [(1, .int (nI i)), (0, .int (nI x))] → W p l e (headSpec wsMO_log (rmD 0)).room s m [.int (nI x)].toArray below meth c s.heap [] 0 0 Q (F0 m 2 ls []) := by
    intro fu
    induction fu with
    | zero => intro i ls hmeas; exact absurd hmeas (Nat.not_lt_zero _)
    | succ fu ih_2 =>
      intro i ls hmeas hi hf hl
      refine lv_iload_n hx hb dMO_log_2 rfl (lv_at hl 1 rfl) ?_
      refine lv_iload_n hx hb dMO_log_3 rfl (lv_at hl 0 rfl) ?_
      refine qn_ishr hx hb dMO_log_4 (by omega) (by omega) ?_
      refine lv_iconst (v := nI 1) hx hb dMO_log_5 (by decide +kernel) ?_
      refine qn_cle (tgt := 15) hx hb dMO_log_6 (by decide) (Nat.lt_of_le_of_lt (Nat.div_le_self _ _) (by omega)) (by omega) (fun c_6 => ?_) (fun c_6 => ?_)
      · refine lv_iload_n hx hb dMO_log_15 rfl (lv_at hl 0 rfl) ?_
        exact qn_eq (by rw [← hf, m_pw_stop (Or.inr (r_log2 c_6))]) (hret _ _ dMO_log_16)
      · refine lv_iinc (v := nI (i + 1)) (lv' := [(1, .int (nI (i + 1))), (0, .int (nI x))]) hx hb dMO_log_9 hl (k := 0) rfl (nI_inc _) (by decide) rfl (fun ls hl => ?_)
        refine lv_goto (tgt := 2) hx hb dMO_log_12 (by decide) ?_
        have hq := r_log1 c_6 h1
        exact ih_2 (i + 1) _ (by omega) (by omega) ((m_pw_s hq.1 hq.2).symm.trans hf) (lv_sub hl [0, 1] rfl)
  exact lp_2 _ 0 _ (Nat.lt_succ_self _) (by omega) rfl (lv_sub hl [0, 1] rfl)
set_option maxHeartbeats 4000000 in
set_option maxRecDepth 100000 in
theorem kg_hadBefore (l : Launch) (dC : Nat → ClassId) (dI : Nat → Nat → Nat) (cI cZ cL : ClassId) (mo : Nat) (th : Nat) (mL : Nat) (mR : Nat) (mC : Nat) (kp : Nat) (kw : Nat) (kh : Nat) (kz : Nat) (kps : Nat) (jps : Nat → Nat) (kln : Nat) (krz : Nat) (krf : Nat) (jrf : Nat → Option Nat) (krp : Nat) (krl : Nat) (ch : Nat) (mpt : Nat) (kpr : Nat) (mk : Nat) (kro : Nat) (kha : Nat) (fz : Bool) (kbe : Nat) (msz : Nat) (kby : Nat) (mf : Nat) (mov : Nat) (rds : Bool) (kgr : Nat) (klo : Nat) (kdo : Nat) (dr : Nat) (kdr : Nat) (mat : Nat) (mle : Nat) (mno : Nat) (mla : Nat) (ken : Nat) (ktu : Nat) (kda : Nat) (k y : Nat) (hps : ∀ j, jps j ≤ 164) (hL : 1 ≤ mL ∧ mL ≤ 8) (hk : k < 1728) (hy : y < 8) (hrf : ∀ j n, jrf j = some n → n < 8) :
    q_CP l (dC, dI) vwCl (tyL cI cZ cL) yMO_hadBefore wsMO_hadBefore (rmD 1) [.ref mo, .int (nI k), .int (nI y)] [(mo, .inr (9, [.int (nI th), .int (nI mL), .int (nI mR), .int (nI mC), .ref kp, .ref kw, .ref kh, .ref kz, .ref kps, .ref kln, .ref krz, .ref krf, .ref krp, .ref krl, .int (nI ch), .int (nI mpt), .ref kpr, .int (nI mk), .ref kro, .ref kha, .int (bI fz), .ref kbe, .int (nI msz), .ref kby, .int (nI mf), .int (nI mov), .int (bI rds), .ref kgr, .ref klo, .ref kdo, .int (nI dr), .ref kdr, .int (nI mat), .int (nI mle), .int (nI mno), .int (nI mla), .ref ken, .ref ktu, .ref kda])), (kps, .inl (cI, 13824, .inl (fun j => nI (jps j)))), (krf, .inl (cI, 1728, .inl (fun j => oI (jrf j))))] (bI (r_had rds jrf jps k y mL)) := by
  refine q_entP "PacketRowsModel" (by decide) rfl (bI_nb _) rfl (Nat.le_of_ble_eq_true rfl) ?_
  intro p e s m below meth c ls Q hx hb hml hts hown hP hK hZ hl hret
  have hl : lv_has ls 3 [(0, .ref mo), (1, .int (nI k)), (2, .int (nI y))] := hl
  refine lv_aload_n hx hb dMO_hadBefore_0 rfl (lv_at hl 0 rfl) ?_
  refine va_get (D := (dC, dI)) (ci := 9) (v := .int (bI rds)) (C := "PacketRowsModel") (T := TMO) (N := 39) hx hb hts inMO hown hK hP 0 rfl rfl 26 (by decide) (hU hts u_1098) (fun _ h9 => h9) rfl dMO_hadBefore_1 ?_
  have jn_39 : W p l e (headSpec wsMO_hadBefore (rmD 1)).room s m [.ref mo, .int (nI k), .int (nI y)].toArray below meth c s.heap [] 0 0 Q (F0 m 39 ls [.int (bI (r_had rds jrf jps k y mL))]) := by
    exact hret _ _ dMO_hadBefore_39
  refine qb_ieq (tgt := 25) hx hb dMO_hadBefore_4 (by decide) (fun c_4 => ?_) (fun c_4 => ?_)
  · refine lv_aload_n hx hb dMO_hadBefore_25 rfl (lv_at hl 0 rfl) ?_
    refine lv_iload_n hx hb dMO_hadBefore_26 rfl (lv_at hl 1 rfl) ?_
    refine vp_callSi (W.runV (As := [.int (nI k)]) (rest := []) ⟨hx, hb, hml, hown, hts⟩ (kg_firstOf l dC dI cI cZ cL mo th mL mR mC kp kw kh kz kps jps kln krz krf krp krl ch mpt kpr mk kro kha fz kbe msz kby mf mov rds kgr klo kdo dr kdr mat mle mno mla ken ktu kda k hps hL hk) (cwV 1 hts (gV u_1304 u_1306 u_29 u_51 u_1307) rfl rfl rfl (by decide +kernel) ⟨Nat.le_of_ble_eq_true rfl, Nat.le_of_ble_eq_true rfl⟩) (q_prePV hK hZ hP [0, 1] rfl rfl rfl) rfl rfl hl.1 rfl (lv_room (Nat.le_of_ble_eq_true rfl)) dMO_hadBefore_27 ⟨Nat.le_of_ble_eq_true rfl, Nat.le_of_ble_eq_true rfl⟩) (fun r_ er_ => ?_)
    subst er_
    refine lv_iload_n hx hb dMO_hadBefore_30 rfl (lv_at hl 2 rfl) ?_
    refine qn_cge (tgt := 38) hx hb dMO_hadBefore_31 (by decide) (by have := r_first_le jps k mL; omega) (by omega) (fun c_31 => ?_) (fun c_31 => ?_)
    · refine lv_iconst (v := nI 0) hx hb dMO_hadBefore_38 (by decide +kernel) ?_
      exact qn_eq (by unfold r_had; first | (rw [if_pos (show rds = true from c_4), oI_none c_14 (fun n q => by have := hrf k n q; omega)]; rfl) | (rw [if_neg (show ¬ rds = true from by rw [c_4]; decide), decide_eq_false (show ¬ r_first jps k mL < y from by omega)]; rfl)) jn_39
    · refine lv_iconst (v := nI 1) hx hb dMO_hadBefore_34 (by decide +kernel) ?_
      refine lv_goto (tgt := 39) hx hb dMO_hadBefore_35 (by decide) ?_
      exact qn_eq (by unfold r_had; first | (rw [if_pos (show rds = true from c_4), c_14]; rfl) | (rw [if_neg (show ¬ rds = true from by rw [c_4]; decide), decide_eq_true (show r_first jps k mL < y from c_31)]; rfl)) jn_39
  · refine lv_aload_n hx hb dMO_hadBefore_7 rfl (lv_at hl 0 rfl) ?_
    refine va_get (D := (dC, dI)) (ci := 9) (v := .ref krf) (C := "PacketRowsModel") (T := TMO) (N := 39) hx hb hts inMO hown hK hP 0 rfl rfl 11 (by decide) (hU hts u_1083) (fun _ h9 => h9) rfl dMO_hadBefore_8 ?_
    refine lv_iload_n hx hb dMO_hadBefore_11 rfl (lv_at hl 1 rfl) ?_
    refine qo_ald hx hb hK hP 2 0 rfl rfl (k := k) (by omega) (by omega) dMO_hadBefore_12 ?_
    refine lv_iconst (v := (-1)) hx hb dMO_hadBefore_13 (by decide +kernel) ?_
    refine qo_ceq (tgt := 21) hx hb dMO_hadBefore_14 (by decide) (fun c_14 => ?_) (fun n9 c_14 => ?_)
    · refine lv_iconst (v := nI 0) hx hb dMO_hadBefore_21 (by decide +kernel) ?_
      refine lv_goto (tgt := 39) hx hb dMO_hadBefore_22 (by decide) ?_
      exact qn_eq (by unfold r_had; first | (rw [if_pos (show rds = true from c_4), oI_none c_14 (fun n q => by have := hrf k n q; omega)]; rfl) | (rw [if_neg (show ¬ rds = true from by rw [c_4]; decide), decide_eq_false (show ¬ r_first jps k mL < y from by omega)]; rfl)) jn_39
    · have hl : lv_has ls 3 [(0, .ref mo), (1, .int (nI k)), (2, .int (nI y))] := hl
      refine lv_iconst (v := nI 1) hx hb dMO_hadBefore_17 (by decide +kernel) ?_
      refine lv_goto (tgt := 39) hx hb dMO_hadBefore_18 (by decide) ?_
      exact qn_eq (by unfold r_had; first | (rw [if_pos (show rds = true from c_4), c_14]; rfl) | (rw [if_neg (show ¬ rds = true from by rw [c_4]; decide), decide_eq_true (show r_first jps k mL < y from c_31)]; rfl)) jn_39

set_option maxHeartbeats 4000000 in
set_option maxRecDepth 100000 in
theorem k_Rows_passesOf (l : Launch) (dC : Nat → ClassId) (dI : Nat → Nat → Nat) (cI cZ cL : ClassId) (r ap al az L nb : Nat) (ps ln zs : Nat → Nat) (b y : Nat) (h1 : b * L + y < nb * L) (h2 : nb * L < 2 ^ 31) :
    q_CP l (dC, dI) vwCl (tyL cI cZ cL) yRW_passesOf wsRW_passesOf (rmD 0) [.ref r, .int (nI b), .int (nI y)] [(r, .inr (5, [.int (nI L), .ref ap, .ref al, .ref az])), (ap, .inl (cI, nb * L, .inl (fun j => nI (ps j)))), (al, .inl (cI, nb * L, .inl (fun j => nI (ln j)))), (az, .inl (cI, nb, .inl (fun j => nI (zs j))))] (nI (ps (b * L + y))) := by
  refine q_entP "PacketRows$Rows" (by decide) rfl rfl rfl (Nat.le_of_ble_eq_true rfl) ?_
  intro p e s m below meth c ls Q hx hb hml hts hown hP hK hZ hl hret
  have hl : lv_has ls 3 [(0, .ref r), (1, .int (nI b)), (2, .int (nI y))] := hl
  refine lv_aload_n hx hb dRW_passesOf_0 rfl (lv_at hl 0 rfl) ?_
  refine va_get (D := (dC, dI)) (ci := 5) (v := .ref ap) (C := "PacketRows$Rows") (T := TRW) (N := 4) hx hb hts inRW hown hK hP 0 rfl rfl 1 (by decide) (hU hts u_163) (fun _ h9 => h9) rfl dRW_passesOf_1 ?_
  refine lv_iload_n hx hb dRW_passesOf_4 rfl (lv_at hl 1 rfl) ?_
  refine lv_aload_n hx hb dRW_passesOf_5 rfl (lv_at hl 0 rfl) ?_
  refine va_get (D := (dC, dI)) (ci := 5) (v := .int (nI L)) (C := "PacketRows$Rows") (T := TRW) (N := 4) hx hb hts inRW hown hK hP 0 rfl rfl 0 (by decide) (hU hts u_162) (fun _ h9 => h9) rfl dRW_passesOf_6 ?_
  refine qn_imul hx hb dRW_passesOf_9 ?_
  refine lv_iload_n hx hb dRW_passesOf_10 rfl (lv_at hl 2 rfl) ?_
  refine qn_iadd hx hb dRW_passesOf_11 ?_
  refine qi_ald hx hb hK hP 1 0 rfl rfl (k := b * L + y) (by omega) (by omega) dRW_passesOf_12 ?_
  exact hret _ _ dRW_passesOf_13
set_option maxHeartbeats 4000000 in
set_option maxRecDepth 100000 in
theorem k_Rows_lengthOf (l : Launch) (dC : Nat → ClassId) (dI : Nat → Nat → Nat) (cI cZ cL : ClassId) (r ap al az L nb : Nat) (ps ln zs : Nat → Nat) (b y : Nat) (h1 : b * L + y < nb * L) (h2 : nb * L < 2 ^ 31) :
    q_CP l (dC, dI) vwCl (tyL cI cZ cL) yRW_lengthOf wsRW_lengthOf (rmD 0) [.ref r, .int (nI b), .int (nI y)] [(r, .inr (5, [.int (nI L), .ref ap, .ref al, .ref az])), (ap, .inl (cI, nb * L, .inl (fun j => nI (ps j)))), (al, .inl (cI, nb * L, .inl (fun j => nI (ln j)))), (az, .inl (cI, nb, .inl (fun j => nI (zs j))))] (nI (ln (b * L + y))) := by
  refine q_entP "PacketRows$Rows" (by decide) rfl rfl rfl (Nat.le_of_ble_eq_true rfl) ?_
  intro p e s m below meth c ls Q hx hb hml hts hown hP hK hZ hl hret
  have hl : lv_has ls 3 [(0, .ref r), (1, .int (nI b)), (2, .int (nI y))] := hl
  refine lv_aload_n hx hb dRW_lengthOf_0 rfl (lv_at hl 0 rfl) ?_
  refine va_get (D := (dC, dI)) (ci := 5) (v := .ref al) (C := "PacketRows$Rows") (T := TRW) (N := 4) hx hb hts inRW hown hK hP 0 rfl rfl 2 (by decide) (hU hts u_164) (fun _ h9 => h9) rfl dRW_lengthOf_1 ?_
  refine lv_iload_n hx hb dRW_lengthOf_4 rfl (lv_at hl 1 rfl) ?_
  refine lv_aload_n hx hb dRW_lengthOf_5 rfl (lv_at hl 0 rfl) ?_
  refine va_get (D := (dC, dI)) (ci := 5) (v := .int (nI L)) (C := "PacketRows$Rows") (T := TRW) (N := 4) hx hb hts inRW hown hK hP 0 rfl rfl 0 (by decide) (hU hts u_162) (fun _ h9 => h9) rfl dRW_lengthOf_6 ?_
  refine qn_imul hx hb dRW_lengthOf_9 ?_
  refine lv_iload_n hx hb dRW_lengthOf_10 rfl (lv_at hl 2 rfl) ?_
  refine qn_iadd hx hb dRW_lengthOf_11 ?_
  refine qi_ald hx hb hK hP 2 0 rfl rfl (k := b * L + y) (by omega) (by omega) dRW_lengthOf_12 ?_
  exact hret _ _ dRW_lengthOf_13
set_option maxHeartbeats 4000000 in
set_option maxRecDepth 100000 in
theorem k_Rows_put (l : Launch) (dC : Nat → ClassId) (dI : Nat → Nat → Nat) (cI cZ cL : ClassId) (r ap al az L nb : Nat) (ps ln zs : Nat → Nat) (b y k g : Nat) (h1 : b * L + y < nb * L) (h2 : nb * L < 2 ^ 31) :
    q_CV l (dC, dI) vwCl (tyL cI cZ cL) yRW_put wsRW_put (rmD 0) [.ref r, .int (nI b), .int (nI y), .int (nI k), .int (nI g)] [(r, .inr (5, [.int (nI L), .ref ap, .ref al, .ref az])), (ap, .inl (cI, nb * L, .inl (fun j => nI (ps j)))), (al, .inl (cI, nb * L, .inl (fun j => nI (ln j)))), (az, .inl (cI, nb, .inl (fun j => nI (zs j))))] (fun (_ : Unit) => True) (fun (_ : Unit) => [(r, .inr (5, [.int (nI L), .ref ap, .ref al, .ref az])), (ap, .inl (cI, nb * L, .inl (fun j => nI ((va_up ps (b * L + y) k) j)))), (al, .inl (cI, nb * L, .inl (fun j => nI ((va_up ln (b * L + y) g) j)))), (az, .inl (cI, nb, .inl (fun j => nI (zs j))))]) := by
  refine q_entV "PacketRows$Rows" (by decide) rfl rfl (Nat.le_of_ble_eq_true rfl) ?_
  intro p e s m below meth c ls Q A hx hb hml hts hown hP hD hK hZ hO hA hS hl hret
  have hl : lv_has ls 5 [(0, .ref r), (1, .int (nI b)), (2, .int (nI y)), (3, .int (nI k)), (4, .int (nI g))] := hl
  refine lv_aload_n hx hb dRW_put_0 rfl (lv_at hl 0 rfl) ?_
  refine va_get (D := (dC, dI)) (ci := 5) (v := .ref ap) (C := "PacketRows$Rows") (T := TRW) (N := 4) hx hb hts inRW hown hK hP 0 rfl rfl 1 (by decide) (hU hts u_163) (fun _ h9 => h9) rfl dRW_put_1 ?_
  refine lv_iload_n hx hb dRW_put_4 rfl (lv_at hl 1 rfl) ?_
  refine lv_aload_n hx hb dRW_put_5 rfl (lv_at hl 0 rfl) ?_
  refine va_get (D := (dC, dI)) (ci := 5) (v := .int (nI L)) (C := "PacketRows$Rows") (T := TRW) (N := 4) hx hb hts inRW hown hK hP 0 rfl rfl 0 (by decide) (hU hts u_162) (fun _ h9 => h9) rfl dRW_put_6 ?_
  refine qn_imul hx hb dRW_put_9 ?_
  refine lv_iload_n hx hb dRW_put_10 rfl (lv_at hl 2 rfl) ?_
  refine qn_iadd hx hb dRW_put_11 ?_
  refine lv_iload_n hx hb dRW_put_12 rfl (lv_at hl 3 rfl) ?_
  refine qi_ast hx hb hK hP hD hS 1 0 rfl rfl (k := b * L + y) (v := k) (by omega) (by omega) dRW_put_13 (fun H locs hP hD hS => ?_)
  have hP : va_P (dC, dI) vwCl [(r, .inr (5, [.int (nI L), .ref ap, .ref al, .ref az])), (ap, .inl (cI, nb * L, .inl (fun j => nI ((va_up ps (b * L + y) k) j)))), (al, .inl (cI, nb * L, .inl (fun j => nI (ln j)))), (az, .inl (cI, nb, .inl (fun j => nI (zs j))))] H := hP
  have hD : va_D A [(r, .inr (5, [.int (nI L), .ref ap, .ref al, .ref az])), (ap, .inl (cI, nb * L, .inl (fun j => nI ((va_up ps (b * L + y) k) j)))), (al, .inl (cI, nb * L, .inl (fun j => nI (ln j)))), (az, .inl (cI, nb, .inl (fun j => nI (zs j))))] := hD
  refine lv_aload_n hx hb dRW_put_14 rfl (lv_at hl 0 rfl) ?_
  refine va_get (D := (dC, dI)) (ci := 5) (v := .ref al) (C := "PacketRows$Rows") (T := TRW) (N := 4) hx hb hts inRW hown hK hP 0 rfl rfl 2 (by decide) (hU hts u_164) (fun _ h9 => h9) rfl dRW_put_15 ?_
  refine lv_iload_n hx hb dRW_put_18 rfl (lv_at hl 1 rfl) ?_
  refine lv_aload_n hx hb dRW_put_19 rfl (lv_at hl 0 rfl) ?_
  refine va_get (D := (dC, dI)) (ci := 5) (v := .int (nI L)) (C := "PacketRows$Rows") (T := TRW) (N := 4) hx hb hts inRW hown hK hP 0 rfl rfl 0 (by decide) (hU hts u_162) (fun _ h9 => h9) rfl dRW_put_20 ?_
  refine qn_imul hx hb dRW_put_23 ?_
  refine lv_iload_n hx hb dRW_put_24 rfl (lv_at hl 2 rfl) ?_
  refine qn_iadd hx hb dRW_put_25 ?_
  refine lv_iload hx hb dRW_put_26 (lv_at hl 4 rfl) ?_
  refine qi_ast hx hb hK hP hD hS 2 0 rfl rfl (k := b * L + y) (v := g) (by omega) (by omega) dRW_put_28 (fun H locs hP hD hS => ?_)
  have hP : va_P (dC, dI) vwCl [(r, .inr (5, [.int (nI L), .ref ap, .ref al, .ref az])), (ap, .inl (cI, nb * L, .inl (fun j => nI ((va_up ps (b * L + y) k) j)))), (al, .inl (cI, nb * L, .inl (fun j => nI ((va_up ln (b * L + y) g) j)))), (az, .inl (cI, nb, .inl (fun j => nI (zs j))))] H := hP
  have hD : va_D A [(r, .inr (5, [.int (nI L), .ref ap, .ref al, .ref az])), (ap, .inl (cI, nb * L, .inl (fun j => nI ((va_up ps (b * L + y) k) j)))), (al, .inl (cI, nb * L, .inl (fun j => nI ((va_up ln (b * L + y) g) j)))), (az, .inl (cI, nb, .inl (fun j => nI (zs j))))] := hD
  exact hret () _ _ _ _ dRW_put_29 trivial hP hS
set_option maxHeartbeats 4000000 in
set_option maxRecDepth 100000 in
theorem k_Rows_firstOf (l : Launch) (dC : Nat → ClassId) (dI : Nat → Nat → Nat) (cI cZ cL : ClassId) (r ap al az L nb : Nat) (ps ln zs : Nat → Nat) (b : Nat) (h1 : b < nb) (hL : L < 2 ^ 20) (hn : nb * L < 2 ^ 31) (hp : ∀ j, ps j < 2 ^ 31) :
    q_CP l (dC, dI) vwCl (tyL cI cZ cL) yRW_firstOf wsRW_firstOf (rmD 1) [.ref r, .int (nI b)] [(r, .inr (5, [.int (nI L), .ref ap, .ref al, .ref az])), (ap, .inl (cI, nb * L, .inl (fun j => nI (ps j)))), (al, .inl (cI, nb * L, .inl (fun j => nI (ln j)))), (az, .inl (cI, nb, .inl (fun j => nI (zs j))))] (nI (m_first ps b L)) := by
  refine q_entP "PacketRows$Rows" (by decide) rfl rfl rfl (Nat.le_of_ble_eq_true rfl) ?_
  intro p e s m below meth c ls Q hx hb hml hts hown hP hK hZ hl hret
  have hl : lv_has ls 3 [(0, .ref r), (1, .int (nI b))] := hl
  refine lv_iconst (v := nI 0) hx hb dRW_firstOf_0 (by decide +kernel) ?_
  refine lv_istore_n (lv' := [(2, .int (nI 0)), (0, .ref r), (1, .int (nI b))]) hx hb dRW_firstOf_1 rfl hl (by decide) rfl (fun ls hl => ?_)
  have lp_2 : ∀ (fu : Nat) (i : Nat) (ls : Array Slot), L - i < fu → (i ≤ L) → (∀ j, j < i → ps (b * L + j) = 0) → lv_has ls 3 [(2, .int (nI i)), (0, .ref r), (1, .int (nI b))] → W p l e (headSpec wsRW_firstOf (rmD 1)).room s m [.ref r, .int (nI b)].toArray below meth c s.heap [] 0 0 Q (F0 m 2 ls []) := by
    intro fu
    induction fu with
    | zero => intro i ls hmeas; exact absurd hmeas (Nat.not_lt_zero _)
    | succ fu ih_2 =>
      intro i ls hmeas hi hz hl
      refine lv_iload_n hx hb dRW_firstOf_2 rfl (lv_at hl 0 rfl) ?_
      refine lv_aload_n hx hb dRW_firstOf_3 rfl (lv_at hl 1 rfl) ?_
      refine va_get (D := (dC, dI)) (ci := 5) (v := .int (nI L)) (C := "PacketRows$Rows") (T := TRW) (N := 4) hx hb hts inRW hown hK hP 0 rfl rfl 0 (by decide) (hU hts u_162) (fun _ h9 => h9) rfl dRW_firstOf_4 ?_
      refine qn_cge (tgt := 27) hx hb dRW_firstOf_7 (by decide) (by omega) (by omega) (fun c_7 => ?_) (fun c_7 => ?_)
      · refine lv_aload_n hx hb dRW_firstOf_27 rfl (lv_at hl 1 rfl) ?_
        refine va_get (D := (dC, dI)) (ci := 5) (v := .int (nI L)) (C := "PacketRows$Rows") (T := TRW) (N := 4) hx hb hts inRW hown hK hP 0 rfl rfl 0 (by decide) (hU hts u_162) (fun _ h9 => h9) rfl dRW_firstOf_28 ?_
        exact qn_eq (by rw [m_first_no (fun j hj => hz j (by omega))]) (hret _ _ dRW_firstOf_31)
      · refine lv_aload_n hx hb dRW_firstOf_10 rfl (lv_at hl 1 rfl) ?_
        refine lv_iload_n hx hb dRW_firstOf_11 rfl (lv_at hl 2 rfl) ?_
        refine lv_iload_n hx hb dRW_firstOf_12 rfl (lv_at hl 0 rfl) ?_
        refine vp_callSi (W.runV (As := [.int (nI b), .int (nI i)]) (rest := []) ⟨hx, hb, hml, hown, hts⟩ (k_Rows_passesOf l dC dI cI cZ cL r ap al az L nb ps ln zs b i (m_in h1 (by omega)) hn) (cwV 2 hts (gV u_806 u_807 u_808 u_43 u_809) rfl rfl rfl (by decide +kernel) ⟨Nat.le_of_ble_eq_true rfl, Nat.le_of_ble_eq_true rfl⟩) (q_prePV hK hZ hP [0, 1, 2, 3] rfl rfl rfl) rfl rfl hl.1 rfl (lv_room (Nat.le_of_ble_eq_true rfl)) dRW_firstOf_13 ⟨Nat.le_of_ble_eq_true rfl, Nat.le_of_ble_eq_true rfl⟩) (fun r_ er_ => ?_)
        subst er_
        refine qn_ile (tgt := 21) hx hb dRW_firstOf_16 (by decide) (hp _) (fun c_16 => ?_) (fun c_16 => ?_)
        · refine lv_iinc (v := nI (i + 1)) (lv' := [(2, .int (nI (i + 1))), (0, .ref r), (1, .int (nI b))]) hx hb dRW_firstOf_21 hl (k := 0) rfl (nI_inc _) (by decide) rfl (fun ls hl => ?_)
          refine lv_goto (tgt := 2) hx hb dRW_firstOf_24 (by decide) ?_
          exact ih_2 (i + 1) _ (by omega) (by omega) (fun j hj => by rcases Nat.lt_succ_iff_lt_or_eq.mp hj with h | h; exact hz j h; subst h; omega) (lv_sub hl [0, 1, 2] rfl)
        · refine lv_iload_n hx hb dRW_firstOf_19 rfl (lv_at hl 0 rfl) ?_
          exact qn_eq (by rw [m_first_at hz c_7 c_16]) (hret _ _ dRW_firstOf_20)
  exact lp_2 _ 0 _ (Nat.lt_succ_self _) (Nat.zero_le _) (fun j hj => absurd hj (Nat.not_lt_zero _)) (lv_sub hl [0, 1, 2] rfl)
set_option maxHeartbeats 4000000 in
set_option maxRecDepth 100000 in
theorem k_Rows_anyComes (l : Launch) (dC : Nat → ClassId) (dI : Nat → Nat → Nat) (cI cZ cL : ClassId) (r ap al az L nb : Nat) (ps ln zs : Nat → Nat) (y f t : Nat) (hy : y < L) (ht : t ≤ nb) (hft : f ≤ t) (hnb : nb < 2 ^ 20) (hn : nb * L < 2 ^ 31) (hp : ∀ j, ps j < 2 ^ 31) :
    q_CP l (dC, dI) vwCl (tyL cI cZ cL) yRW_anyComes wsRW_anyComes (rmD 1) [.ref r, .int (nI y), .int (nI f), .int (nI t)] [(r, .inr (5, [.int (nI L), .ref ap, .ref al, .ref az])), (ap, .inl (cI, nb * L, .inl (fun j => nI (ps j)))), (al, .inl (cI, nb * L, .inl (fun j => nI (ln j)))), (az, .inl (cI, nb, .inl (fun j => nI (zs j))))] (bI (m_any ps L y f t)) := by
  refine q_entP "PacketRows$Rows" (by decide) rfl (bI_nb _) rfl (Nat.le_of_ble_eq_true rfl) ?_
  intro p e s m below meth c ls Q hx hb hml hts hown hP hK hZ hl hret
  have hl : lv_has ls 5 [(0, .ref r), (1, .int (nI y)), (2, .int (nI f)), (3, .int (nI t))] := hl
  refine lv_iload_n hx hb dRW_anyComes_0 rfl (lv_at hl 2 rfl) ?_
  refine lv_istore (lv' := [(4, .int (nI f)), (0, .ref r), (1, .int (nI y)), (2, .int (nI f)), (3, .int (nI t))]) hx hb dRW_anyComes_1 hl (by decide) rfl (fun ls hl => ?_)
  have lp_3 : ∀ (fu : Nat) (i : Nat) (ls : Array Slot), t - i < fu → (f ≤ i ∧ i ≤ t) → (∀ j, f ≤ j → j < i → ps (j * L + y) = 0) → lv_has ls 5 [(4, .int (nI i)), (0, .ref r), (1, .int (nI y)), (2, .int (nI f)), (3, .int (nI t))] → W p l e (headSpec wsRW_anyComes (rmD 1)).room s m [.ref r, .int (nI y), .int (nI f), .int (nI t)].toArray below meth c s.heap [] 0 0 Q (F0 m 3 ls []) := by
    intro fu
    induction fu with
    | zero => intro i ls hmeas; exact absurd hmeas (Nat.not_lt_zero _)
    | succ fu ih_3 =>
      intro i ls hmeas hi hz hl
      refine lv_iload hx hb dRW_anyComes_3 (lv_at hl 0 rfl) ?_
      refine lv_iload_n hx hb dRW_anyComes_5 rfl (lv_at hl 4 rfl) ?_
      refine qn_cge (tgt := 27) hx hb dRW_anyComes_6 (by decide) (by omega) (by omega) (fun c_6 => ?_) (fun c_6 => ?_)
      · refine lv_iconst (v := nI 0) hx hb dRW_anyComes_27 (by decide +kernel) ?_
        exact qn_eq (by rw [m_any_f (fun j h1 h2 => hz j h1 (by omega))]; rfl) (hret _ _ dRW_anyComes_28)
      · refine lv_aload_n hx hb dRW_anyComes_9 rfl (lv_at hl 1 rfl) ?_
        refine lv_iload hx hb dRW_anyComes_10 (lv_at hl 0 rfl) ?_
        refine lv_iload_n hx hb dRW_anyComes_12 rfl (lv_at hl 2 rfl) ?_
        refine vp_callSi (W.runV (As := [.int (nI i), .int (nI y)]) (rest := []) ⟨hx, hb, hml, hown, hts⟩ (k_Rows_passesOf l dC dI cI cZ cL r ap al az L nb ps ln zs i y (m_in (by omega) hy) hn) (cwV 2 hts (gV u_806 u_807 u_808 u_43 u_809) rfl rfl rfl (by decide +kernel) ⟨Nat.le_of_ble_eq_true rfl, Nat.le_of_ble_eq_true rfl⟩) (q_prePV hK hZ hP [0, 1, 2, 3] rfl rfl rfl) rfl rfl hl.1 rfl (lv_room (Nat.le_of_ble_eq_true rfl)) dRW_anyComes_13 ⟨Nat.le_of_ble_eq_true rfl, Nat.le_of_ble_eq_true rfl⟩) (fun r_ er_ => ?_)
        subst er_
        refine qn_ile (tgt := 21) hx hb dRW_anyComes_16 (by decide) (hp _) (fun c_16 => ?_) (fun c_16 => ?_)
        · refine lv_iinc (v := nI (i + 1)) (lv' := [(4, .int (nI (i + 1))), (0, .ref r), (1, .int (nI y)), (2, .int (nI f)), (3, .int (nI t))]) hx hb dRW_anyComes_21 hl (k := 0) rfl (nI_inc _) (by decide) rfl (fun ls hl => ?_)
          refine lv_goto (tgt := 3) hx hb dRW_anyComes_24 (by decide) ?_
          exact ih_3 (i + 1) _ (by omega) (by omega) (fun j h1 hj => by rcases Nat.lt_succ_iff_lt_or_eq.mp hj with h | h; exact hz j h1 h; subst h; omega) (lv_sub hl [0, 1, 2, 3, 4] rfl)
        · refine lv_iconst (v := nI 1) hx hb dRW_anyComes_19 (by decide +kernel) ?_
          exact qn_eq (by rw [m_any_t hi.1 c_6 c_16]; rfl) (hret _ _ dRW_anyComes_20)
  exact lp_3 _ f _ (Nat.lt_succ_self _) (⟨Nat.le_refl _, hft⟩) (fun j h1 h2 => absurd h2 (by omega)) (lv_sub hl [0, 1, 2, 3, 4] rfl)

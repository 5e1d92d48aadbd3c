set_option maxHeartbeats 4000000 in
set_option maxRecDepth 100000 in
theorem k_Tree_setLeaf (l : Launch) (dC : Nat → ClassId) (dI : Nat → Nat → Nat) (cI cZ cL : ClassId) (t tp tv tl td tq nt : Nat) (g : Nat → Option Nat) (vs lo pa : Nat → Nat) (dn : Nat → Bool) (k v : Nat) (hk : k < nt) (hn : nt < 2 ^ 30) :
    q_CV l (dC, dI) vwCl (tyL cI cZ cL) yTR_setLeaf wsTR_setLeaf (rmD 0) [.ref t, .int (nI k), .int (nI v)] [(t, .inr (6, [.ref tp, .ref tv, .ref tl, .ref td, .ref tq])), (tp, .inl (cI, nt, .inl (fun j => oI (g j)))), (tv, .inl (cI, nt, .inl (fun j => nI (vs j)))), (tl, .inl (cI, nt, .inl (fun j => nI (lo j)))), (td, .inl (cZ, nt, .inl (fun j => bI (dn j)))), (tq, .inl (cI, 3, .inl (fun j => nI (pa j))))] (fun (_ : Unit) => True) (fun (_ : Unit) => [(t, .inr (6, [.ref tp, .ref tv, .ref tl, .ref td, .ref tq])), (tp, .inl (cI, nt, .inl (fun j => oI (g j)))), (tv, .inl (cI, nt, .inl (fun j => nI ((va_up vs k v) j)))), (tl, .inl (cI, nt, .inl (fun j => nI (lo j)))), (td, .inl (cZ, nt, .inl (fun j => bI (dn j)))), (tq, .inl (cI, 3, .inl (fun j => nI (pa j))))]) := by
  refine q_entV "PacketRows$Tree" (by decide) rfl rfl (Nat.le_of_ble_eq_true rfl) ?_
  intro p e s m below meth c ls Q A hx hb hml hts hown hP hD hK hZ hO hA hS hl hret
  have hl : lv_has ls 3 [(0, .ref t), (1, .int (nI k)), (2, .int (nI v))] := hl
  refine lv_aload_n hx hb dTR_setLeaf_0 rfl (lv_at hl 0 rfl) ?_
  refine va_get (D := (dC, dI)) (ci := 6) (v := .ref tv) (C := "PacketRows$Tree") (T := TTR) (N := 5) hx hb hts inTR hown hK hP 0 rfl rfl 1 (by decide) (hU hts u_309) (fun _ h9 => h9) rfl dTR_setLeaf_1 ?_
  refine lv_iload_n hx hb dTR_setLeaf_4 rfl (lv_at hl 1 rfl) ?_
  refine lv_iload_n hx hb dTR_setLeaf_5 rfl (lv_at hl 2 rfl) ?_
  refine qi_ast hx hb hK hP hD hS 2 0 rfl rfl (k := k) (v := v) (by omega) (by omega) dTR_setLeaf_6 (fun H locs hP hD hS => ?_)
  have hP : va_P (dC, dI) vwCl [(t, .inr (6, [.ref tp, .ref tv, .ref tl, .ref td, .ref tq])), (tp, .inl (cI, nt, .inl (fun j => oI (g j)))), (tv, .inl (cI, nt, .inl (fun j => nI ((va_up vs k v) j)))), (tl, .inl (cI, nt, .inl (fun j => nI (lo j)))), (td, .inl (cZ, nt, .inl (fun j => bI (dn j)))), (tq, .inl (cI, 3, .inl (fun j => nI (pa j))))] H := hP
  have hD : va_D A [(t, .inr (6, [.ref tp, .ref tv, .ref tl, .ref td, .ref tq])), (tp, .inl (cI, nt, .inl (fun j => oI (g j)))), (tv, .inl (cI, nt, .inl (fun j => nI ((va_up vs k v) j)))), (tl, .inl (cI, nt, .inl (fun j => nI (lo j)))), (td, .inl (cZ, nt, .inl (fun j => bI (dn j)))), (tq, .inl (cI, 3, .inl (fun j => nI (pa j))))] := hD
  exact hret () _ _ _ _ dTR_setLeaf_7 trivial hP hS
set_option maxHeartbeats 4000000 in
set_option maxRecDepth 100000 in
theorem k_Tree_isDone (l : Launch) (dC : Nat → ClassId) (dI : Nat → Nat → Nat) (cI cZ cL : ClassId) (t tp tv tl td tq nt : Nat) (g : Nat → Option Nat) (vs lo pa : Nat → Nat) (dn : Nat → Bool) (k : Nat) (hk : k < nt) (hn : nt < 2 ^ 30) :
    q_CP l (dC, dI) vwCl (tyL cI cZ cL) yTR_isDone wsTR_isDone (rmD 0) [.ref t, .int (nI k)] [(t, .inr (6, [.ref tp, .ref tv, .ref tl, .ref td, .ref tq])), (tp, .inl (cI, nt, .inl (fun j => oI (g j)))), (tv, .inl (cI, nt, .inl (fun j => nI (vs j)))), (tl, .inl (cI, nt, .inl (fun j => nI (lo j)))), (td, .inl (cZ, nt, .inl (fun j => bI (dn j)))), (tq, .inl (cI, 3, .inl (fun j => nI (pa j))))] (bI (dn k)) := by
  refine q_entP "PacketRows$Tree" (by decide) rfl (bI_nb _) rfl (Nat.le_of_ble_eq_true rfl) ?_
  intro p e s m below meth c ls Q hx hb hml hts hown hP hK hZ hl hret
  have hl : lv_has ls 2 [(0, .ref t), (1, .int (nI k))] := hl
  refine lv_aload_n hx hb dTR_isDone_0 rfl (lv_at hl 0 rfl) ?_
  refine va_get (D := (dC, dI)) (ci := 6) (v := .ref td) (C := "PacketRows$Tree") (T := TTR) (N := 5) hx hb hts inTR hown hK hP 0 rfl rfl 3 (by decide) (hU hts u_311) (fun _ h9 => h9) rfl dTR_isDone_1 ?_
  refine lv_iload_n hx hb dTR_isDone_4 rfl (lv_at hl 1 rfl) ?_
  refine qz_ald hx hb hK hP 4 1 rfl rfl (k := k) (by omega) (by omega) dTR_isDone_5 ?_
  exact hret _ _ dTR_isDone_6
set_option maxHeartbeats 4000000 in
set_option maxRecDepth 100000 in
theorem k_Tree_clear (l : Launch) (dC : Nat → ClassId) (dI : Nat → Nat → Nat) (cI cZ cL : ClassId) (t tp tv tl td tq nt : Nat) (g : Nat → Option Nat) (vs lo pa : Nat → Nat) (dn : Nat → Bool) (n : Nat) (hk : n ≤ nt) (hn : nt < 2 ^ 30) :
    q_CV l (dC, dI) vwCl (tyL cI cZ cL) yTR_clear wsTR_clear (rmD 0) [.ref t, .int (nI n)] [(t, .inr (6, [.ref tp, .ref tv, .ref tl, .ref td, .ref tq])), (tp, .inl (cI, nt, .inl (fun j => oI (g j)))), (tv, .inl (cI, nt, .inl (fun j => nI (vs j)))), (tl, .inl (cI, nt, .inl (fun j => nI (lo j)))), (td, .inl (cZ, nt, .inl (fun j => bI (dn j)))), (tq, .inl (cI, 3, .inl (fun j => nI (pa j))))] (fun (_ : Unit) => True) (fun (_ : Unit) => [(t, .inr (6, [.ref tp, .ref tv, .ref tl, .ref td, .ref tq])), (tp, .inl (cI, nt, .inl (fun j => oI (g j)))), (tv, .inl (cI, nt, .inl (fun j => nI ((m_fill 1000 n vs) j)))), (tl, .inl (cI, nt, .inl (fun j => nI ((m_fill 0 n lo) j)))), (td, .inl (cZ, nt, .inl (fun j => bI ((m_fill false n dn) j)))), (tq, .inl (cI, 3, .inl (fun j => nI (pa j))))]) := by
  refine q_entV "PacketRows$Tree" (by decide) rfl rfl (Nat.le_of_ble_eq_true rfl) ?_
  intro p e s m below meth c ls Q A hx hb hml hts hown hP hD hK hZ hO hA hS hl hret
  have hl : lv_has ls 3 [(0, .ref t), (1, .int (nI n))] := hl
  refine lv_iconst (v := nI 0) hx hb dTR_clear_0 (by decide +kernel) ?_
  refine lv_istore_n (lv' := [(2, .int (nI 0)), (0, .ref t), (1, .int (nI n))]) hx hb dTR_clear_1 rfl hl (by decide) rfl (fun ls hl => ?_)
  have lp_2 : ∀ (fu : Nat) (i : Nat) (H : Heap) (locs : List Loc) (ls : Array Slot), n - i < fu → (i ≤ n) → va_P (dC, dI) vwCl [(t, .inr (6, [.ref tp, .ref tv, .ref tl, .ref td, .ref tq])), (tp, .inl (cI, nt, .inl (fun j => oI (g j)))), (tv, .inl (cI, nt, .inl (fun j => nI ((m_fill 1000 i vs) j)))), (tl, .inl (cI, nt, .inl (fun j => nI ((m_fill 0 i lo) j)))), (td, .inl (cZ, nt, .inl (fun j => bI ((m_fill false i dn) j)))), (tq, .inl (cI, 3, .inl (fun j => nI (pa j))))] H → va_D A [(t, .inr (6, [.ref tp, .ref tv, .ref tl, .ref td, .ref tq])), (tp, .inl (cI, nt, .inl (fun j => oI (g j)))), (tv, .inl (cI, nt, .inl (fun j => nI ((m_fill 1000 i vs) j)))), (tl, .inl (cI, nt, .inl (fun j => nI ((m_fill 0 i lo) j)))), (td, .inl (cZ, nt, .inl (fun j => bI ((m_fill false i dn) j)))), (tq, .inl (cI, 3, .inl (fun j => nI (pa j))))] → va_S A s.heap H locs → lv_has ls 3 [(2, .int (nI i)), (0, .ref t), (1, .int (nI n))] → W p l e (headSpec wsTR_clear (rmD 0)).room s m [.ref t, .int (nI n)].toArray below meth c H locs 0 0 Q (F0 m 2 ls []) := by
    intro fu
    induction fu with
    | zero => intro i H locs ls hmeas; exact absurd hmeas (Nat.not_lt_zero _)
    | succ fu ih_2 =>
      intro i H locs ls hmeas hi hP hD hS hl
      refine lv_iload_n hx hb dTR_clear_2 rfl (lv_at hl 0 rfl) ?_
      refine lv_iload_n hx hb dTR_clear_3 rfl (lv_at hl 2 rfl) ?_
      refine qn_cge (tgt := 36) hx hb dTR_clear_4 (by decide) (by omega) (by omega) (fun c_4 => ?_) (fun c_4 => ?_)
      · have e9 : i = n := by omega
        subst e9
        exact hret () _ _ _ _ dTR_clear_36 trivial hP hS
      · refine lv_aload_n hx hb dTR_clear_7 rfl (lv_at hl 1 rfl) ?_
        refine va_get (D := (dC, dI)) (ci := 6) (v := .ref tv) (C := "PacketRows$Tree") (T := TTR) (N := 5) hx hb hts inTR hown hK hP 0 rfl rfl 1 (by decide) (hU hts u_309) (fun _ h9 => h9) rfl dTR_clear_8 ?_
        refine lv_iload_n hx hb dTR_clear_11 rfl (lv_at hl 0 rfl) ?_
        refine lv_sipush (v := nI 1000) hx hb dTR_clear_12 (by decide +kernel) ?_
        refine qi_ast hx hb hK hP hD hS 2 0 rfl rfl (k := i) (v := 1000) (by omega) (by omega) dTR_clear_15 (fun H locs hP hD hS => ?_)
        have hP : va_P (dC, dI) vwCl [(t, .inr (6, [.ref tp, .ref tv, .ref tl, .ref td, .ref tq])), (tp, .inl (cI, nt, .inl (fun j => oI (g j)))), (tv, .inl (cI, nt, .inl (fun j => nI ((va_up (m_fill 1000 i vs) i 1000) j)))), (tl, .inl (cI, nt, .inl (fun j => nI ((m_fill 0 i lo) j)))), (td, .inl (cZ, nt, .inl (fun j => bI ((m_fill false i dn) j)))), (tq, .inl (cI, 3, .inl (fun j => nI (pa j))))] H := hP
        have hD : va_D A [(t, .inr (6, [.ref tp, .ref tv, .ref tl, .ref td, .ref tq])), (tp, .inl (cI, nt, .inl (fun j => oI (g j)))), (tv, .inl (cI, nt, .inl (fun j => nI ((va_up (m_fill 1000 i vs) i 1000) j)))), (tl, .inl (cI, nt, .inl (fun j => nI ((m_fill 0 i lo) j)))), (td, .inl (cZ, nt, .inl (fun j => bI ((m_fill false i dn) j)))), (tq, .inl (cI, 3, .inl (fun j => nI (pa j))))] := hD
        refine lv_aload_n hx hb dTR_clear_16 rfl (lv_at hl 1 rfl) ?_
        refine va_get (D := (dC, dI)) (ci := 6) (v := .ref tl) (C := "PacketRows$Tree") (T := TTR) (N := 5) hx hb hts inTR hown hK hP 0 rfl rfl 2 (by decide) (hU hts u_310) (fun _ h9 => h9) rfl dTR_clear_17 ?_
        refine lv_iload_n hx hb dTR_clear_20 rfl (lv_at hl 0 rfl) ?_
        refine lv_iconst (v := nI 0) hx hb dTR_clear_21 (by decide +kernel) ?_
        refine qi_ast hx hb hK hP hD hS 3 0 rfl rfl (k := i) (v := 0) (by omega) (by omega) dTR_clear_22 (fun H locs hP hD hS => ?_)
        have hP : va_P (dC, dI) vwCl [(t, .inr (6, [.ref tp, .ref tv, .ref tl, .ref td, .ref tq])), (tp, .inl (cI, nt, .inl (fun j => oI (g j)))), (tv, .inl (cI, nt, .inl (fun j => nI ((va_up (m_fill 1000 i vs) i 1000) j)))), (tl, .inl (cI, nt, .inl (fun j => nI ((va_up (m_fill 0 i lo) i 0) j)))), (td, .inl (cZ, nt, .inl (fun j => bI ((m_fill false i dn) j)))), (tq, .inl (cI, 3, .inl (fun j => nI (pa j))))] H := hP
        have hD : va_D A [(t, .inr (6, [.ref tp, .ref tv, .ref tl, .ref td, .ref tq])), (tp, .inl (cI, nt, .inl (fun j => oI (g j)))), (tv, .inl (cI, nt, .inl (fun j => nI ((va_up (m_fill 1000 i vs) i 1000) j)))), (tl, .inl (cI, nt, .inl (fun j => nI ((va_up (m_fill 0 i lo) i 0) j)))), (td, .inl (cZ, nt, .inl (fun j => bI ((m_fill false i dn) j)))), (tq, .inl (cI, 3, .inl (fun j => nI (pa j))))] := hD
        refine lv_aload_n hx hb dTR_clear_23 rfl (lv_at hl 1 rfl) ?_
        refine va_get (D := (dC, dI)) (ci := 6) (v := .ref td) (C := "PacketRows$Tree") (T := TTR) (N := 5) hx hb hts inTR hown hK hP 0 rfl rfl 3 (by decide) (hU hts u_311) (fun _ h9 => h9) rfl dTR_clear_24 ?_
        refine lv_iload_n hx hb dTR_clear_27 rfl (lv_at hl 0 rfl) ?_
        refine lv_iconst (v := bI false) hx hb dTR_clear_28 (by decide +kernel) ?_
        refine qz_ast hx hb hK hP hD hS 4 1 rfl rfl (k := i) (v := false) (by omega) (by omega) dTR_clear_29 (fun H locs hP hD hS => ?_)
        have hP : va_P (dC, dI) vwCl [(t, .inr (6, [.ref tp, .ref tv, .ref tl, .ref td, .ref tq])), (tp, .inl (cI, nt, .inl (fun j => oI (g j)))), (tv, .inl (cI, nt, .inl (fun j => nI ((va_up (m_fill 1000 i vs) i 1000) j)))), (tl, .inl (cI, nt, .inl (fun j => nI ((va_up (m_fill 0 i lo) i 0) j)))), (td, .inl (cZ, nt, .inl (fun j => bI ((va_up (m_fill false i dn) i false) j)))), (tq, .inl (cI, 3, .inl (fun j => nI (pa j))))] H := hP
        have hD : va_D A [(t, .inr (6, [.ref tp, .ref tv, .ref tl, .ref td, .ref tq])), (tp, .inl (cI, nt, .inl (fun j => oI (g j)))), (tv, .inl (cI, nt, .inl (fun j => nI ((va_up (m_fill 1000 i vs) i 1000) j)))), (tl, .inl (cI, nt, .inl (fun j => nI ((va_up (m_fill 0 i lo) i 0) j)))), (td, .inl (cZ, nt, .inl (fun j => bI ((va_up (m_fill false i dn) i false) j)))), (tq, .inl (cI, 3, .inl (fun j => nI (pa j))))] := hD
        refine lv_iinc (v := nI (i + 1)) (lv' := [(2, .int (nI (i + 1))), (0, .ref t), (1, .int (nI n))]) hx hb dTR_clear_30 hl (k := 0) rfl (nI_inc _) (by decide) rfl (fun ls hl => ?_)
        refine lv_goto (tgt := 2) hx hb dTR_clear_33 (by decide) ?_
        exact ih_2 (i + 1) _ _ _ (by omega) (by omega) (by rw [m_fill_s, m_fill_s, m_fill_s] at hP; exact hP) (by rw [m_fill_s, m_fill_s, m_fill_s] at hD; exact hD) hS (lv_sub hl [0, 1, 2] rfl)
  exact lp_2 _ 0 _ _ _ (Nat.lt_succ_self _) (Nat.zero_le _) (by rw [m_fill_0, m_fill_0, m_fill_0]; exact hP) (by rw [m_fill_0, m_fill_0, m_fill_0]; exact hD) hS (lv_sub hl [0, 1, 2] rfl)
set_option maxHeartbeats 4000000 in
set_option maxRecDepth 100000 in
theorem k_Tree_gatherLeasts (l : Launch) (dC : Nat → ClassId) (dI : Nat → Nat → Nat) (cI cZ cL : ClassId) (t tp tv tl td tq nt : Nat) (g : Nat → Option Nat) (vs lo pa : Nat → Nat) (dn : Nat → Bool) (n : Nat) (hk : n ≤ nt) (hn : nt < 2 ^ 30) (hg : ∀ i p, g i = some p → p < nt) (hv : ∀ j, vs j < 2 ^ 30) :
    q_CV l (dC, dI) vwCl (tyL cI cZ cL) yTR_gatherLeasts wsTR_gatherLeasts (rmD 0) [.ref t, .int (nI n)] [(t, .inr (6, [.ref tp, .ref tv, .ref tl, .ref td, .ref tq])), (tp, .inl (cI, nt, .inl (fun j => oI (g j)))), (tv, .inl (cI, nt, .inl (fun j => nI (vs j)))), (tl, .inl (cI, nt, .inl (fun j => nI (lo j)))), (td, .inl (cZ, nt, .inl (fun j => bI (dn j)))), (tq, .inl (cI, 3, .inl (fun j => nI (pa j))))] (fun (_ : Unit) => True) (fun (_ : Unit) => [(t, .inr (6, [.ref tp, .ref tv, .ref tl, .ref td, .ref tq])), (tp, .inl (cI, nt, .inl (fun j => oI (g j)))), (tv, .inl (cI, nt, .inl (fun j => nI ((m_gath g vs n) j)))), (tl, .inl (cI, nt, .inl (fun j => nI (lo j)))), (td, .inl (cZ, nt, .inl (fun j => bI (dn j)))), (tq, .inl (cI, 3, .inl (fun j => nI (pa j))))]) := by
  refine q_entV "PacketRows$Tree" (by decide) rfl rfl (Nat.le_of_ble_eq_true rfl) ?_
  intro p e s m below meth c ls Q A hx hb hml hts hown hP hD hK hZ hO hA hS hl hret
  have hl : lv_has ls 4 [(0, .ref t), (1, .int (nI n))] := hl
  refine lv_iconst (v := nI 0) hx hb dTR_gatherLeasts_0 (by decide +kernel) ?_
  refine lv_istore_n (lv' := [(2, .int (nI 0)), (0, .ref t), (1, .int (nI n))]) hx hb dTR_gatherLeasts_1 rfl hl (by decide) rfl (fun ls hl => ?_)
  have lp_2 : ∀ (fu : Nat) (i : Nat) (H : Heap) (locs : List Loc) (ls : Array Slot), n - i < fu → (i ≤ n) → va_P (dC, dI) vwCl [(t, .inr (6, [.ref tp, .ref tv, .ref tl, .ref td, .ref tq])), (tp, .inl (cI, nt, .inl (fun j => oI (g j)))), (tv, .inl (cI, nt, .inl (fun j => nI ((m_gath g vs i) j)))), (tl, .inl (cI, nt, .inl (fun j => nI (lo j)))), (td, .inl (cZ, nt, .inl (fun j => bI (dn j)))), (tq, .inl (cI, 3, .inl (fun j => nI (pa j))))] H → va_D A [(t, .inr (6, [.ref tp, .ref tv, .ref tl, .ref td, .ref tq])), (tp, .inl (cI, nt, .inl (fun j => oI (g j)))), (tv, .inl (cI, nt, .inl (fun j => nI ((m_gath g vs i) j)))), (tl, .inl (cI, nt, .inl (fun j => nI (lo j)))), (td, .inl (cZ, nt, .inl (fun j => bI (dn j)))), (tq, .inl (cI, 3, .inl (fun j => nI (pa j))))] → va_S A s.heap H locs → lv_has ls 4 [(2, .int (nI i)), (0, .ref t), (1, .int (nI n))] → W p l e (headSpec wsTR_gatherLeasts (rmD 0)).room s m [.ref t, .int (nI n)].toArray below meth c H locs 0 0 Q (F0 m 2 ls []) := by
    intro fu
    induction fu with
    | zero => intro i H locs ls hmeas; exact absurd hmeas (Nat.not_lt_zero _)
    | succ fu ih_2 =>
      intro i H locs ls hmeas hi hP hD hS hl
      refine lv_iload_n hx hb dTR_gatherLeasts_2 rfl (lv_at hl 0 rfl) ?_
      refine lv_iload_n hx hb dTR_gatherLeasts_3 rfl (lv_at hl 2 rfl) ?_
      refine qn_cge (tgt := 46) hx hb dTR_gatherLeasts_4 (by decide) (by omega) (by omega) (fun c_4 => ?_) (fun c_4 => ?_)
      · have e9 : i = n := by omega
        subst e9
        exact hret () _ _ _ _ dTR_gatherLeasts_46 trivial hP hS
      · refine lv_aload_n hx hb dTR_gatherLeasts_7 rfl (lv_at hl 1 rfl) ?_
        refine va_get (D := (dC, dI)) (ci := 6) (v := .ref tp) (C := "PacketRows$Tree") (T := TTR) (N := 5) hx hb hts inTR hown hK hP 0 rfl rfl 0 (by decide) (hU hts u_308) (fun _ h9 => h9) rfl dTR_gatherLeasts_8 ?_
        refine lv_iload_n hx hb dTR_gatherLeasts_11 rfl (lv_at hl 0 rfl) ?_
        refine qo_ald hx hb hK hP 1 0 rfl rfl (k := i) (by omega) (by omega) dTR_gatherLeasts_12 ?_
        refine lv_istore_n (lv' := [(3, .int (oI (g i))), (2, .int (nI i)), (0, .ref t), (1, .int (nI n))]) hx hb dTR_gatherLeasts_13 rfl hl (by decide) rfl (fun ls hl => ?_)
        refine lv_iload_n hx hb dTR_gatherLeasts_14 rfl (lv_at hl 0 rfl) ?_
        refine lv_iconst (v := (-1)) hx hb dTR_gatherLeasts_15 (by decide +kernel) ?_
        refine qo_ceq (tgt := 40) hx hb dTR_gatherLeasts_16 (by decide) (fun c_16 => ?_) (fun q c_16 => ?_)
        · refine lv_iinc (v := nI (i + 1)) (lv' := [(2, .int (nI (i + 1))), (3, .int (oI (g i))), (0, .ref t), (1, .int (nI n))]) hx hb dTR_gatherLeasts_40 hl (k := 1) rfl (nI_inc _) (by decide) rfl (fun ls hl => ?_)
          refine lv_goto (tgt := 2) hx hb dTR_gatherLeasts_43 (by decide) ?_
          exact ih_2 (i + 1) _ _ _ (by omega) (by omega) (by first | (rw [m_gath_s (by assumption)]; exact hP) | (rw [m_gath_n (by assumption) (fun p h => by have := hg _ p h; omega)]; exact hP)) (by first | (rw [m_gath_s (by assumption)]; exact hD) | (rw [m_gath_n (by assumption) (fun p h => by have := hg _ p h; omega)]; exact hD)) hS (lv_sub hl [0, 2, 3] rfl)
        · have hl : lv_has ls 4 [(3, .int (nI q)), (2, .int (nI i)), (0, .ref t), (1, .int (nI n))] := by rw [c_16] at hl; exact hl
          have hq := hg i q c_16
          refine lv_aload_n hx hb dTR_gatherLeasts_19 rfl (lv_at hl 2 rfl) ?_
          refine va_get (D := (dC, dI)) (ci := 6) (v := .ref tv) (C := "PacketRows$Tree") (T := TTR) (N := 5) hx hb hts inTR hown hK hP 0 rfl rfl 1 (by decide) (hU hts u_309) (fun _ h9 => h9) rfl dTR_gatherLeasts_20 ?_
          refine lv_iload_n hx hb dTR_gatherLeasts_23 rfl (lv_at hl 0 rfl) ?_
          refine lv_aload_n hx hb dTR_gatherLeasts_24 rfl (lv_at hl 2 rfl) ?_
          refine va_get (D := (dC, dI)) (ci := 6) (v := .ref tv) (C := "PacketRows$Tree") (T := TTR) (N := 5) hx hb hts inTR hown hK hP 0 rfl rfl 1 (by decide) (hU hts u_309) (fun _ h9 => h9) rfl dTR_gatherLeasts_25 ?_
          refine lv_iload_n hx hb dTR_gatherLeasts_28 rfl (lv_at hl 0 rfl) ?_
          refine qi_ald hx hb hK hP 2 0 rfl rfl (k := q) (by omega) (by omega) dTR_gatherLeasts_29 ?_
          refine lv_aload_n hx hb dTR_gatherLeasts_30 rfl (lv_at hl 2 rfl) ?_
          refine va_get (D := (dC, dI)) (ci := 6) (v := .ref tv) (C := "PacketRows$Tree") (T := TTR) (N := 5) hx hb hts inTR hown hK hP 0 rfl rfl 1 (by decide) (hU hts u_309) (fun _ h9 => h9) rfl dTR_gatherLeasts_31 ?_
          refine lv_iload_n hx hb dTR_gatherLeasts_34 rfl (lv_at hl 1 rfl) ?_
          refine qi_ald hx hb hK hP 2 0 rfl rfl (k := i) (by omega) (by omega) dTR_gatherLeasts_35 ?_
          refine va_mmin hx hb (by rw [hml]; exact hl.1.symm) hown (hU hts u_818) (hU hts u_82) (hU hts u_42) (hU hts u_83) (Nat.le_of_ble_eq_true rfl) (Nat.le_of_ble_eq_true rfl) (Nat.le_of_ble_eq_true rfl) (Nat.le_of_ble_eq_true rfl) dTR_gatherLeasts_36 ?_
          refine qn_eq (y := nI (min ((m_gath g vs i) q) ((m_gath g vs i) i))) (q_min (by have := m_gath_lt (g := g) hv i q; omega) (by have := m_gath_lt (g := g) hv i i; omega)) ?_
          refine qi_ast hx hb hK hP hD hS 2 0 rfl rfl (k := q) (v := min ((m_gath g vs i) q) ((m_gath g vs i) i)) (by omega) (by omega) dTR_gatherLeasts_39 (fun H locs hP hD hS => ?_)
          have hP : va_P (dC, dI) vwCl [(t, .inr (6, [.ref tp, .ref tv, .ref tl, .ref td, .ref tq])), (tp, .inl (cI, nt, .inl (fun j => oI (g j)))), (tv, .inl (cI, nt, .inl (fun j => nI ((va_up (m_gath g vs i) q (min ((m_gath g vs i) q) ((m_gath g vs i) i))) j)))), (tl, .inl (cI, nt, .inl (fun j => nI (lo j)))), (td, .inl (cZ, nt, .inl (fun j => bI (dn j)))), (tq, .inl (cI, 3, .inl (fun j => nI (pa j))))] H := hP
          have hD : va_D A [(t, .inr (6, [.ref tp, .ref tv, .ref tl, .ref td, .ref tq])), (tp, .inl (cI, nt, .inl (fun j => oI (g j)))), (tv, .inl (cI, nt, .inl (fun j => nI ((va_up (m_gath g vs i) q (min ((m_gath g vs i) q) ((m_gath g vs i) i))) j)))), (tl, .inl (cI, nt, .inl (fun j => nI (lo j)))), (td, .inl (cZ, nt, .inl (fun j => bI (dn j)))), (tq, .inl (cI, 3, .inl (fun j => nI (pa j))))] := hD
          refine lv_iinc (v := nI (i + 1)) (lv' := [(2, .int (nI (i + 1))), (3, .int (nI q)), (0, .ref t), (1, .int (nI n))]) hx hb dTR_gatherLeasts_40 hl (k := 1) rfl (nI_inc _) (by decide) rfl (fun ls hl => ?_)
          refine lv_goto (tgt := 2) hx hb dTR_gatherLeasts_43 (by decide) ?_
          exact ih_2 (i + 1) _ _ _ (by omega) (by omega) (by first | (rw [m_gath_s (by assumption)]; exact hP) | (rw [m_gath_n (by assumption) (fun p h => by have := hg _ p h; omega)]; exact hP)) (by first | (rw [m_gath_s (by assumption)]; exact hD) | (rw [m_gath_n (by assumption) (fun p h => by have := hg _ p h; omega)]; exact hD)) hS (lv_sub hl [0, 2, 3] rfl)
  exact lp_2 _ 0 _ _ _ (Nat.lt_succ_self _) (Nat.zero_le _) hP hD hS (lv_sub hl [0, 1, 2] rfl)

set_option maxHeartbeats 4000000 in
set_option maxRecDepth 100000 in
theorem k_Tree_tell_W (l : Launch) (dC : Nat → ClassId) (dI : Nat → Nat → Nat) (cI cZ cL : ClassId) (t tp tv tl td tq nt : Nat) (g : Nat → Option Nat) (vs lo pa : Nat → Nat) (dn : Nat → Bool) (wr br bg row bz : Nat) (ms : Bool) (σ : wS) (le en rw : Nat) (q : Nat → Nat) (hn : nt < 2 ^ 30) (hle : le < nt) (hen : en < 2 ^ 20) (hr : 1 ≤ rw ∧ rw ≤ 3) (h0 : q 0 = le) (hq : ∀ k, k + 1 < rw → g (q k) = some (q (k + 1))) (hx9 : rw = 3 ∨ g (q (rw - 1)) = none) (hqn : ∀ k, k < rw → q k < nt) (hv : ∀ j, vs j < 2 ^ 30) (hlo : ∀ j, lo j < 2 ^ 30) (hok : okW (rw * (en + 1)) σ) :
    q_CI l (dC, dI) vwCl (tyL cI cZ cL) yTR_tell wsTR_tell (rmD 1) [.ref t, .ref wr, .int (nI le), .int (nI en)] [(t, .inr (6, [.ref tp, .ref tv, .ref tl, .ref td, .ref tq])), (tp, .inl (cI, nt, .inl (fun j => oI (g j)))), (tv, .inl (cI, nt, .inl (fun j => nI (vs j)))), (tl, .inl (cI, nt, .inl (fun j => nI (lo j)))), (td, .inl (cZ, nt, .inl (fun j => bI (dn j)))), (tq, .inl (cI, 3, .inl (fun j => nI (pa j)))), (wr, .inr (7, [.int (nI σ.1), .ref br, .ref bg, .int (nI σ.2.2.1), .int (bI ms), .int (nI σ.2.2.2.1), .int (nI σ.2.2.2.2)])), (br, .inr (0, [.ref row, .int (nI bz)])), (row, .inl (cI, 6000, .inl (fun j => nI (σ.2.1 j))))] (fun (z : Int32) (_ : Unit) => z = nI ((t_rows (bitW ms) vs en q rw (0, lo, dn, σ)).1)) (fun (_ : Unit) => [(t, .inr (6, [.ref tp, .ref tv, .ref tl, .ref td, .ref tq])), (tp, .inl (cI, nt, .inl (fun j => oI (g j)))), (tv, .inl (cI, nt, .inl (fun j => nI (vs j)))), (tl, .inl (cI, nt, .inl (fun j => nI (((t_rows (bitW ms) vs en q rw (0, lo, dn, σ)).2.1) j)))), (td, .inl (cZ, nt, .inl (fun j => bI (((t_rows (bitW ms) vs en q rw (0, lo, dn, σ)).2.2.1) j)))), (tq, .inl (cI, 3, .inl (fun j => nI ((m_pre q rw pa) j)))), (wr, .inr (7, [.int (nI ((t_rows (bitW ms) vs en q rw (0, lo, dn, σ)).2.2.2.1)), .ref br, .ref bg, .int (nI ((t_rows (bitW ms) vs en q rw (0, lo, dn, σ)).2.2.2.2.2.1)), .int (bI ms), .int (nI ((t_rows (bitW ms) vs en q rw (0, lo, dn, σ)).2.2.2.2.2.2.1)), .int (nI ((t_rows (bitW ms) vs en q rw (0, lo, dn, σ)).2.2.2.2.2.2.2))])), (br, .inr (0, [.ref row, .int (nI bz)])), (row, .inl (cI, 6000, .inl (fun j => nI (((t_rows (bitW ms) vs en q rw (0, lo, dn, σ)).2.2.2.2.1) j))))]) := by
  refine q_entI "PacketRows$Tree" (by decide) rfl (fun _ _ _ => rfl) rfl (Nat.le_of_ble_eq_true rfl) ?_
  intro p e s m below meth c ls Q A hx hb hml hts hown hP hD hK hZ hO hA hS hl hret
  have hl : lv_has ls 8 [(0, .ref t), (1, .ref wr), (2, .int (nI le)), (3, .int (nI en))] := hl
  refine lv_iconst (v := nI 0) hx hb dTR_tell_0 (by decide +kernel) ?_
  refine lv_istore (lv' := [(4, .int (nI 0)), (0, .ref t), (1, .ref wr), (2, .int (nI le)), (3, .int (nI en))]) hx hb dTR_tell_1 hl (by decide) rfl (fun ls hl => ?_)
  refine lv_iload_n hx hb dTR_tell_3 rfl (lv_at hl 3 rfl) ?_
  refine lv_istore (lv' := [(5, .int (nI le)), (4, .int (nI 0)), (0, .ref t), (1, .ref wr), (2, .int (nI le)), (3, .int (nI en))]) hx hb dTR_tell_4 hl (by decide) rfl (fun ls hl => ?_)
  have lp_42 : ∀ (fu : Nat)  (H : Heap) (locs : List Loc) (ls : Array Slot), 0 < fu → va_P (dC, dI) vwCl [(t, .inr (6, [.ref tp, .ref tv, .ref tl, .ref td, .ref tq])), (tp, .inl (cI, nt, .inl (fun j => oI (g j)))), (tv, .inl (cI, nt, .inl (fun j => nI (vs j)))), (tl, .inl (cI, nt, .inl (fun j => nI (lo j)))), (td, .inl (cZ, nt, .inl (fun j => bI (dn j)))), (tq, .inl (cI, 3, .inl (fun j => nI ((m_pre q rw pa) j)))), (wr, .inr (7, [.int (nI σ.1), .ref br, .ref bg, .int (nI σ.2.2.1), .int (bI ms), .int (nI σ.2.2.2.1), .int (nI σ.2.2.2.2)])), (br, .inr (0, [.ref row, .int (nI bz)])), (row, .inl (cI, 6000, .inl (fun j => nI (σ.2.1 j))))] H → va_D A [(t, .inr (6, [.ref tp, .ref tv, .ref tl, .ref td, .ref tq])), (tp, .inl (cI, nt, .inl (fun j => oI (g j)))), (tv, .inl (cI, nt, .inl (fun j => nI (vs j)))), (tl, .inl (cI, nt, .inl (fun j => nI (lo j)))), (td, .inl (cZ, nt, .inl (fun j => bI (dn j)))), (tq, .inl (cI, 3, .inl (fun j => nI ((m_pre q rw pa) j)))), (wr, .inr (7, [.int (nI σ.1), .ref br, .ref bg, .int (nI σ.2.2.1), .int (bI ms), .int (nI σ.2.2.2.1), .int (nI σ.2.2.2.2)])), (br, .inr (0, [.ref row, .int (nI bz)])), (row, .inl (cI, 6000, .inl (fun j => nI (σ.2.1 j))))] → va_S A s.heap H locs → lv_has ls 8 [(4, .int (nI rw)), (0, .ref t), (1, .ref wr), (2, .int (nI le)), (3, .int (nI en))] → W p l e (headSpec wsTR_tell (rmD 1)).room s m [.ref t, .ref wr, .int (nI le), .int (nI en)].toArray below meth c H locs 0 0 Q (F0 m 42 ls []) := by
    intro fu
    induction fu with
    | zero => intro  H locs ls hmeas; exact absurd hmeas (Nat.not_lt_zero _)
    | succ fu ih_42 =>
      intro  H locs ls hmeas  hP hD hS hl
      refine lv_iconst (v := nI 0) hx hb dTR_tell_42 (by decide +kernel) ?_
      refine lv_istore (lv' := [(5, .int (nI 0)), (4, .int (nI rw)), (0, .ref t), (1, .ref wr), (2, .int (nI le)), (3, .int (nI en))]) hx hb dTR_tell_43 hl (by decide) rfl (fun ls hl => ?_)
      refine lv_iload hx hb dTR_tell_45 (lv_at hl 1 rfl) ?_
      refine lv_iconst (v := nI 1) hx hb dTR_tell_47 (by decide +kernel) ?_
      refine lv_isub hx hb dTR_tell_48 ?_
      refine qn_eq (y := eI rw) rfl ?_
      refine lv_istore (lv' := [(6, .int (eI rw)), (5, .int (nI 0)), (4, .int (nI rw)), (0, .ref t), (1, .ref wr), (2, .int (nI le)), (3, .int (nI en))]) hx hb dTR_tell_49 hl (by decide) rfl (fun ls hl => ?_)
      have lp_51 : ∀ (fu : Nat) (i low : Nat) (lq : Nat → Nat) (dq : Nat → Bool) (sq : wS) (H : Heap) (locs : List Loc) (ls : Array Slot), i < fu → (i ≤ rw) → (low < 2 ^ 30) → (∀ j, lq j < 2 ^ 30) → (okW (i * (en + 1)) sq) → (t_rows (bitW ms) vs en q i (low, lq, dq, sq) = t_rows (bitW ms) vs en q rw (0, lo, dn, σ)) → va_P (dC, dI) vwCl [(t, .inr (6, [.ref tp, .ref tv, .ref tl, .ref td, .ref tq])), (tp, .inl (cI, nt, .inl (fun j => oI (g j)))), (tv, .inl (cI, nt, .inl (fun j => nI (vs j)))), (tl, .inl (cI, nt, .inl (fun j => nI (lq j)))), (td, .inl (cZ, nt, .inl (fun j => bI (dq j)))), (tq, .inl (cI, 3, .inl (fun j => nI ((m_pre q rw pa) j)))), (wr, .inr (7, [.int (nI sq.1), .ref br, .ref bg, .int (nI sq.2.2.1), .int (bI ms), .int (nI sq.2.2.2.1), .int (nI sq.2.2.2.2)])), (br, .inr (0, [.ref row, .int (nI bz)])), (row, .inl (cI, 6000, .inl (fun j => nI (sq.2.1 j))))] H → va_D A [(t, .inr (6, [.ref tp, .ref tv, .ref tl, .ref td, .ref tq])), (tp, .inl (cI, nt, .inl (fun j => oI (g j)))), (tv, .inl (cI, nt, .inl (fun j => nI (vs j)))), (tl, .inl (cI, nt, .inl (fun j => nI (lq j)))), (td, .inl (cZ, nt, .inl (fun j => bI (dq j)))), (tq, .inl (cI, 3, .inl (fun j => nI ((m_pre q rw pa) j)))), (wr, .inr (7, [.int (nI sq.1), .ref br, .ref bg, .int (nI sq.2.2.1), .int (bI ms), .int (nI sq.2.2.2.1), .int (nI sq.2.2.2.2)])), (br, .inr (0, [.ref row, .int (nI bz)])), (row, .inl (cI, 6000, .inl (fun j => nI (sq.2.1 j))))] → va_S A s.heap H locs → lv_has ls 8 [(6, .int (eI i)), (5, .int (nI low)), (4, .int (nI rw)), (0, .ref t), (1, .ref wr), (2, .int (nI le)), (3, .int (nI en))] → W p l e (headSpec wsTR_tell (rmD 1)).room s m [.ref t, .ref wr, .int (nI le), .int (nI en)].toArray below meth c H locs 0 0 Q (F0 m 51 ls []) := by
        intro fu
        induction fu with
        | zero => intro i low lq dq sq H locs ls hmeas; exact absurd hmeas (Nat.not_lt_zero _)
        | succ fu ih_51 =>
          intro i low lq dq sq H locs ls hmeas hi hlow hlq hok hf hP hD hS hl
          refine lv_iload hx hb dTR_tell_51 (lv_at hl 0 rfl) ?_
          refine qd_ilt (tgt := 151) hx hb dTR_tell_53 (by decide) (fun c_53 => ?_) (fun k_ c_53 => ?_)
          · subst c_53
            refine lv_iload hx hb dTR_tell_151 (lv_at hl 1 rfl) ?_
            have e9 : (low, lq, dq, sq) = t_rows (bitW ms) vs en q rw (0, lo, dn, σ) := hf
            exact hret _ () _ _ _ _ dTR_tell_153 (by rw [← e9]) (by rw [← e9]; exact hP) hS
          · subst c_53
            have hl : lv_has ls 8 [(6, .int (nI k_)), (5, .int (nI low)), (4, .int (nI rw)), (0, .ref t), (1, .ref wr), (2, .int (nI le)), (3, .int (nI en))] := by rw [eI_succ] at hl; exact hl
            refine lv_aload_n hx hb dTR_tell_56 rfl (lv_at hl 3 rfl) ?_
            refine va_get (D := (dC, dI)) (ci := 6) (v := .ref tq) (C := "PacketRows$Tree") (T := TTR) (N := 5) hx hb hts inTR hown hK hP 0 rfl rfl 4 (by decide) (hU hts u_312) (fun _ h9 => h9) rfl dTR_tell_57 ?_
            refine lv_iload hx hb dTR_tell_60 (lv_at hl 0 rfl) ?_
            refine qi_ald hx hb hK hP 5 0 rfl rfl (k := k_) (by omega) (by omega) dTR_tell_62 ?_
            refine qn_eq (y := nI (q k_)) (by rw [m_pre_at (by omega)]) ?_
            refine lv_istore (lv' := [(7, .int (nI (q k_))), (6, .int (nI k_)), (5, .int (nI low)), (4, .int (nI rw)), (0, .ref t), (1, .ref wr), (2, .int (nI le)), (3, .int (nI en))]) hx hb dTR_tell_63 hl (by decide) rfl (fun ls hl => ?_)
            refine lv_iload hx hb dTR_tell_65 (lv_at hl 2 rfl) ?_
            refine lv_aload_n hx hb dTR_tell_67 rfl (lv_at hl 4 rfl) ?_
            refine va_get (D := (dC, dI)) (ci := 6) (v := .ref tl) (C := "PacketRows$Tree") (T := TTR) (N := 5) hx hb hts inTR hown hK hP 0 rfl rfl 2 (by decide) (hU hts u_310) (fun _ h9 => h9) rfl dTR_tell_68 ?_
            refine lv_iload hx hb dTR_tell_71 (lv_at hl 0 rfl) ?_
            refine qi_ald hx hb hK hP 3 0 rfl rfl (k := q k_) (hqn k_ (by omega)) (by omega) dTR_tell_73 ?_
            refine va_mmax hx hb (by rw [hml]; exact hl.1.symm) hown (hU hts u_858) (hU hts u_85) (hU hts u_42) (hU hts u_86) (Nat.le_of_ble_eq_true rfl) (Nat.le_of_ble_eq_true rfl) (Nat.le_of_ble_eq_true rfl) (Nat.le_of_ble_eq_true rfl) dTR_tell_74 ?_
            refine qn_eq (y := nI (max low (lq (q k_)))) (q_max (by omega) (by have := hlq (q k_); omega)) ?_
            refine lv_istore (lv' := [(5, .int (nI (max low (lq (q k_))))), (7, .int (nI (q k_))), (6, .int (nI k_)), (4, .int (nI rw)), (0, .ref t), (1, .ref wr), (2, .int (nI le)), (3, .int (nI en))]) hx hb dTR_tell_77 hl (by decide) rfl (fun ls hl => ?_)
            have lp_79 : ∀ (fu : Nat) (lw : Nat) (dx : Nat → Bool) (sg : wS) (H : Heap) (locs : List Loc) (ls : Array Slot), (en - lw) + b2n (!dx (q k_)) < fu → (lw < 2 ^ 30) → (okW (k_ * (en + 1) + ((en - lw) + b2n (!dx (q k_)))) sg) → (t_lp (bitW ms) (vs (q k_)) (q k_) en (en - lw) lw dx sg = t_lp (bitW ms) (vs (q k_)) (q k_) en (en - max low (lq (q k_))) (max low (lq (q k_))) dq sq) → va_P (dC, dI) vwCl [(t, .inr (6, [.ref tp, .ref tv, .ref tl, .ref td, .ref tq])), (tp, .inl (cI, nt, .inl (fun j => oI (g j)))), (tv, .inl (cI, nt, .inl (fun j => nI (vs j)))), (tl, .inl (cI, nt, .inl (fun j => nI (lq j)))), (td, .inl (cZ, nt, .inl (fun j => bI (dx j)))), (tq, .inl (cI, 3, .inl (fun j => nI ((m_pre q rw pa) j)))), (wr, .inr (7, [.int (nI sg.1), .ref br, .ref bg, .int (nI sg.2.2.1), .int (bI ms), .int (nI sg.2.2.2.1), .int (nI sg.2.2.2.2)])), (br, .inr (0, [.ref row, .int (nI bz)])), (row, .inl (cI, 6000, .inl (fun j => nI (sg.2.1 j))))] H → va_D A [(t, .inr (6, [.ref tp, .ref tv, .ref tl, .ref td, .ref tq])), (tp, .inl (cI, nt, .inl (fun j => oI (g j)))), (tv, .inl (cI, nt, .inl (fun j => nI (vs j)))), (tl, .inl (cI, nt, .inl (fun j => nI (lq j)))), (td, .inl (cZ, nt, .inl (fun j => bI (dx j)))), (tq, .inl (cI, 3, .inl (fun j => nI ((m_pre q rw pa) j)))), (wr, .inr (7, [.int (nI sg.1), .ref br, .ref bg, .int (nI sg.2.2.1), .int (bI ms), .int (nI sg.2.2.2.1), .int (nI sg.2.2.2.2)])), (br, .inr (0, [.ref row, .int (nI bz)])), (row, .inl (cI, 6000, .inl (fun j => nI (sg.2.1 j))))] → va_S A s.heap H locs → lv_has ls 8 [(5, .int (nI lw)), (7, .int (nI (q k_))), (6, .int (nI k_)), (4, .int (nI rw)), (0, .ref t), (1, .ref wr), (2, .int (nI le)), (3, .int (nI en))] → W p l e (headSpec wsTR_tell (rmD 1)).room s m [.ref t, .ref wr, .int (nI le), .int (nI en)].toArray below meth c H locs 0 0 Q (F0 m 79 ls []) := by
              intro fu
              induction fu with
              | zero => intro lw dx sg H locs ls hmeas; exact absurd hmeas (Nat.not_lt_zero _)
              | succ fu ih_79 =>
                intro lw dx sg H locs ls hmeas hlw hok2 hf2 hP hD hS hl
                refine lv_iload hx hb dTR_tell_79 (lv_at hl 0 rfl) ?_
                refine lv_iload_n hx hb dTR_tell_81 rfl (lv_at hl 7 rfl) ?_
                refine qn_cge (tgt := 136) hx hb dTR_tell_82 (by decide) (by omega) (by omega) (fun c_82 => ?_) (fun c_82 => ?_)
                · refine lv_aload_n hx hb dTR_tell_136 rfl (lv_at hl 4 rfl) ?_
                  refine va_get (D := (dC, dI)) (ci := 6) (v := .ref tl) (C := "PacketRows$Tree") (T := TTR) (N := 5) hx hb hts inTR hown hK hP 0 rfl rfl 2 (by decide) (hU hts u_310) (fun _ h9 => h9) rfl dTR_tell_137 ?_
                  refine lv_iload hx hb dTR_tell_140 (lv_at hl 1 rfl) ?_
                  refine lv_iload hx hb dTR_tell_142 (lv_at hl 0 rfl) ?_
                  refine qi_ast hx hb hK hP hD hS 3 0 rfl rfl (k := q k_) (v := lw) (hqn k_ (by omega)) (by omega) dTR_tell_144 (fun H locs hP hD hS => ?_)
                  have hP : va_P (dC, dI) vwCl [(t, .inr (6, [.ref tp, .ref tv, .ref tl, .ref td, .ref tq])), (tp, .inl (cI, nt, .inl (fun j => oI (g j)))), (tv, .inl (cI, nt, .inl (fun j => nI (vs j)))), (tl, .inl (cI, nt, .inl (fun j => nI ((va_up lq (q k_) lw) j)))), (td, .inl (cZ, nt, .inl (fun j => bI (dx j)))), (tq, .inl (cI, 3, .inl (fun j => nI ((m_pre q rw pa) j)))), (wr, .inr (7, [.int (nI sg.1), .ref br, .ref bg, .int (nI sg.2.2.1), .int (bI ms), .int (nI sg.2.2.2.1), .int (nI sg.2.2.2.2)])), (br, .inr (0, [.ref row, .int (nI bz)])), (row, .inl (cI, 6000, .inl (fun j => nI (sg.2.1 j))))] H := hP
                  have hD : va_D A [(t, .inr (6, [.ref tp, .ref tv, .ref tl, .ref td, .ref tq])), (tp, .inl (cI, nt, .inl (fun j => oI (g j)))), (tv, .inl (cI, nt, .inl (fun j => nI (vs j)))), (tl, .inl (cI, nt, .inl (fun j => nI ((va_up lq (q k_) lw) j)))), (td, .inl (cZ, nt, .inl (fun j => bI (dx j)))), (tq, .inl (cI, 3, .inl (fun j => nI ((m_pre q rw pa) j)))), (wr, .inr (7, [.int (nI sg.1), .ref br, .ref bg, .int (nI sg.2.2.1), .int (bI ms), .int (nI sg.2.2.2.1), .int (nI sg.2.2.2.2)])), (br, .inr (0, [.ref row, .int (nI bz)])), (row, .inl (cI, 6000, .inl (fun j => nI (sg.2.1 j))))] := hD
                  refine lv_iinc (v := eI k_) (lv' := [(6, .int (eI k_)), (5, .int (nI lw)), (7, .int (nI (q k_))), (4, .int (nI rw)), (0, .ref t), (1, .ref wr), (2, .int (nI le)), (3, .int (nI en))]) hx hb dTR_tell_145 hl (k := 2) rfl (eI_inc _) (by decide) rfl (fun ls hl => ?_)
                  refine lv_goto (tgt := 51) hx hb dTR_tell_148 (by decide) ?_
                  have e8 : (lw, dx, sg) = t_lp (bitW ms) (vs (q k_)) (q k_) en (en - max low (lq (q k_))) (max low (lq (q k_))) dq sq := (t_lp_stop _ (fun h => by first | (have := h.1; omega) | (rw [h.2] at c_92; cases c_92))).symm.trans hf2
                  exact ih_51 k_ lw (va_up lq (q k_) lw) dx sg _ _ _ (by omega) (by omega) hlw (m_up_lt hlq hlw) (okW_le hok2 (by omega)) (by have h9 := hf; rw [t_rows, t_nd, ← e8] at h9; exact h9) hP hD hS (lv_sub hl [0, 1, 3, 4, 5, 6, 7] rfl)
                · refine lv_aload_n hx hb dTR_tell_85 rfl (lv_at hl 4 rfl) ?_
                  refine va_get (D := (dC, dI)) (ci := 6) (v := .ref td) (C := "PacketRows$Tree") (T := TTR) (N := 5) hx hb hts inTR hown hK hP 0 rfl rfl 3 (by decide) (hU hts u_311) (fun _ h9 => h9) rfl dTR_tell_86 ?_
                  refine lv_iload hx hb dTR_tell_89 (lv_at hl 1 rfl) ?_
                  refine qz_ald hx hb hK hP 4 1 rfl rfl (k := q k_) (hqn k_ (by omega)) (by omega) dTR_tell_91 ?_
                  refine qb_ine (tgt := 136) hx hb dTR_tell_92 (by decide) (fun c_92 => ?_) (fun c_92 => ?_)
                  · refine lv_aload_n hx hb dTR_tell_136 rfl (lv_at hl 4 rfl) ?_
                    refine va_get (D := (dC, dI)) (ci := 6) (v := .ref tl) (C := "PacketRows$Tree") (T := TTR) (N := 5) hx hb hts inTR hown hK hP 0 rfl rfl 2 (by decide) (hU hts u_310) (fun _ h9 => h9) rfl dTR_tell_137 ?_
                    refine lv_iload hx hb dTR_tell_140 (lv_at hl 1 rfl) ?_
                    refine lv_iload hx hb dTR_tell_142 (lv_at hl 0 rfl) ?_
                    refine qi_ast hx hb hK hP hD hS 3 0 rfl rfl (k := q k_) (v := lw) (hqn k_ (by omega)) (by omega) dTR_tell_144 (fun H locs hP hD hS => ?_)
                    have hP : va_P (dC, dI) vwCl [(t, .inr (6, [.ref tp, .ref tv, .ref tl, .ref td, .ref tq])), (tp, .inl (cI, nt, .inl (fun j => oI (g j)))), (tv, .inl (cI, nt, .inl (fun j => nI (vs j)))), (tl, .inl (cI, nt, .inl (fun j => nI ((va_up lq (q k_) lw) j)))), (td, .inl (cZ, nt, .inl (fun j => bI (dx j)))), (tq, .inl (cI, 3, .inl (fun j => nI ((m_pre q rw pa) j)))), (wr, .inr (7, [.int (nI sg.1), .ref br, .ref bg, .int (nI sg.2.2.1), .int (bI ms), .int (nI sg.2.2.2.1), .int (nI sg.2.2.2.2)])), (br, .inr (0, [.ref row, .int (nI bz)])), (row, .inl (cI, 6000, .inl (fun j => nI (sg.2.1 j))))] H := hP
                    have hD : va_D A [(t, .inr (6, [.ref tp, .ref tv, .ref tl, .ref td, .ref tq])), (tp, .inl (cI, nt, .inl (fun j => oI (g j)))), (tv, .inl (cI, nt, .inl (fun j => nI (vs j)))), (tl, .inl (cI, nt, .inl (fun j => nI ((va_up lq (q k_) lw) j)))), (td, .inl (cZ, nt, .inl (fun j => bI (dx j)))), (tq, .inl (cI, 3, .inl (fun j => nI ((m_pre q rw pa) j)))), (wr, .inr (7, [.int (nI sg.1), .ref br, .ref bg, .int (nI sg.2.2.1), .int (bI ms), .int (nI sg.2.2.2.1), .int (nI sg.2.2.2.2)])), (br, .inr (0, [.ref row, .int (nI bz)])), (row, .inl (cI, 6000, .inl (fun j => nI (sg.2.1 j))))] := hD
                    refine lv_iinc (v := eI k_) (lv' := [(6, .int (eI k_)), (5, .int (nI lw)), (7, .int (nI (q k_))), (4, .int (nI rw)), (0, .ref t), (1, .ref wr), (2, .int (nI le)), (3, .int (nI en))]) hx hb dTR_tell_145 hl (k := 2) rfl (eI_inc _) (by decide) rfl (fun ls hl => ?_)
                    refine lv_goto (tgt := 51) hx hb dTR_tell_148 (by decide) ?_
                    have e8 : (lw, dx, sg) = t_lp (bitW ms) (vs (q k_)) (q k_) en (en - max low (lq (q k_))) (max low (lq (q k_))) dq sq := (t_lp_stop _ (fun h => by first | (have := h.1; omega) | (rw [h.2] at c_92; cases c_92))).symm.trans hf2
                    exact ih_51 k_ lw (va_up lq (q k_) lw) dx sg _ _ _ (by omega) (by omega) hlw (m_up_lt hlq hlw) (okW_le hok2 (by omega)) (by have h9 := hf; rw [t_rows, t_nd, ← e8] at h9; exact h9) hP hD hS (lv_sub hl [0, 1, 3, 4, 5, 6, 7] rfl)
                  · refine lv_aload_n hx hb dTR_tell_95 rfl (lv_at hl 5 rfl) ?_
                    refine lv_aload_n hx hb dTR_tell_96 rfl (lv_at hl 4 rfl) ?_
                    refine va_get (D := (dC, dI)) (ci := 6) (v := .ref tv) (C := "PacketRows$Tree") (T := TTR) (N := 5) hx hb hts inTR hown hK hP 0 rfl rfl 1 (by decide) (hU hts u_309) (fun _ h9 => h9) rfl dTR_tell_97 ?_
                    refine lv_iload hx hb dTR_tell_100 (lv_at hl 1 rfl) ?_
                    refine qi_ald hx hb hK hP 2 0 rfl rfl (k := q k_) (hqn k_ (by omega)) (by omega) dTR_tell_102 ?_
                    refine lv_iload hx hb dTR_tell_103 (lv_at hl 0 rfl) ?_
                    have jn_113 : W p l e (headSpec wsTR_tell (rmD 1)).room s m [.ref t, .ref wr, .int (nI le), .int (nI en)].toArray below meth c H locs 0 0 Q (F0 m 113 ls [.int (bI (decide (vs (q k_) = lw))), .ref wr]) := by
                      refine q_calli (va_runU (As := [.int (bI (decide (vs (q k_) = lw)))]) (rest := []) ⟨hx, hb, hml, hown, hts⟩ (k_Writer_bit l dC dI cI cZ cL wr br bg row bz ms sg (decide (vs (q k_) = lw)) (okW_le hok2 (by rw [c_92]; show 1 ≤ _ + (_ + 1); omega)) H.size) (va_cwA (C := "PacketRows$Writer") (owner := "PacketRows$Bits") (x := ⟨"PacketRows$Bits", "bit", "(Z)Z"⟩) 1 hts (gA u_859 u_842 u_846 u_847 u_47 u_848) rfl rfl rfl (hZ.1 _ z_9) (by decide +kernel) ⟨Nat.le_of_ble_eq_true rfl, Nat.le_of_ble_eq_true rfl⟩) (q_preMV hK hZ hO hS hA hP hD [6, 7, 8] rfl (by decide) rfl rfl) rfl rfl hl.1 rfl (lv_room (Nat.le_of_ble_eq_true rfl)) dTR_tell_113 ⟨Nat.le_of_ble_eq_true rfl, Nat.le_of_ble_eq_true rfl⟩) hP hD hS hA [6, 7, 8] rfl (by decide) (fun _ => by simp only [List.map_cons, List.map_nil]) (fun r_ u_ H locs hpost hP hD hS => ?_)
                      have hP : va_P (dC, dI) vwCl [(t, .inr (6, [.ref tp, .ref tv, .ref tl, .ref td, .ref tq])), (tp, .inl (cI, nt, .inl (fun j => oI (g j)))), (tv, .inl (cI, nt, .inl (fun j => nI (vs j)))), (tl, .inl (cI, nt, .inl (fun j => nI (lq j)))), (td, .inl (cZ, nt, .inl (fun j => bI (dx j)))), (tq, .inl (cI, 3, .inl (fun j => nI ((m_pre q rw pa) j)))), (wr, .inr (7, [.int (nI ((bitW ms sg (decide (vs (q k_) = lw))).2.1)), .ref br, .ref bg, .int (nI ((bitW ms sg (decide (vs (q k_) = lw))).2.2.2.1)), .int (bI ms), .int (nI ((bitW ms sg (decide (vs (q k_) = lw))).2.2.2.2.1)), .int (nI ((bitW ms sg (decide (vs (q k_) = lw))).2.2.2.2.2))])), (br, .inr (0, [.ref row, .int (nI bz)])), (row, .inl (cI, 6000, .inl (fun j => nI (((bitW ms sg (decide (vs (q k_) = lw))).2.2.1) j))))] H := hP
                      have hD : va_D A [(t, .inr (6, [.ref tp, .ref tv, .ref tl, .ref td, .ref tq])), (tp, .inl (cI, nt, .inl (fun j => oI (g j)))), (tv, .inl (cI, nt, .inl (fun j => nI (vs j)))), (tl, .inl (cI, nt, .inl (fun j => nI (lq j)))), (td, .inl (cZ, nt, .inl (fun j => bI (dx j)))), (tq, .inl (cI, 3, .inl (fun j => nI ((m_pre q rw pa) j)))), (wr, .inr (7, [.int (nI ((bitW ms sg (decide (vs (q k_) = lw))).2.1)), .ref br, .ref bg, .int (nI ((bitW ms sg (decide (vs (q k_) = lw))).2.2.2.1)), .int (bI ms), .int (nI ((bitW ms sg (decide (vs (q k_) = lw))).2.2.2.2.1)), .int (nI ((bitW ms sg (decide (vs (q k_) = lw))).2.2.2.2.2))])), (br, .inr (0, [.ref row, .int (nI bz)])), (row, .inl (cI, 6000, .inl (fun j => nI (((bitW ms sg (decide (vs (q k_) = lw))).2.2.1) j))))] := hD
                      subst hpost
                      refine qb_ieq (tgt := 130) hx hb dTR_tell_116 (by decide) (fun c_116 => ?_) (fun c_116 => ?_)
                      · refine lv_iinc (v := nI (lw + 1)) (lv' := [(5, .int (nI (lw + 1))), (7, .int (nI (q k_))), (6, .int (nI k_)), (4, .int (nI rw)), (0, .ref t), (1, .ref wr), (2, .int (nI le)), (3, .int (nI en))]) hx hb dTR_tell_130 hl (k := 0) rfl (nI_inc _) (by decide) rfl (fun ls hl => ?_)
                        refine lv_goto (tgt := 79) hx hb dTR_tell_133 (by decide) ?_
                        exact ih_79 (lw + 1) dx ((bitW ms sg (decide (vs (q k_) = lw))).2) _ _ _ (by omega) (by omega) (okW_bit (okW_le hok2 (by omega)) _) ((t_lp_f (bitW ms) c_82 c_92 c_116).symm.trans hf2) hP hD hS (lv_sub hl [0, 1, 2, 3, 4, 5, 6, 7] rfl)
                      · refine lv_aload_n hx hb dTR_tell_119 rfl (lv_at hl 4 rfl) ?_
                        refine va_get (D := (dC, dI)) (ci := 6) (v := .ref td) (C := "PacketRows$Tree") (T := TTR) (N := 5) hx hb hts inTR hown hK hP 0 rfl rfl 3 (by decide) (hU hts u_311) (fun _ h9 => h9) rfl dTR_tell_120 ?_
                        refine lv_iload hx hb dTR_tell_123 (lv_at hl 1 rfl) ?_
                        refine lv_iconst (v := bI true) hx hb dTR_tell_125 (by decide +kernel) ?_
                        refine qz_ast hx hb hK hP hD hS 4 1 rfl rfl (k := q k_) (v := true) (hqn k_ (by omega)) (by omega) dTR_tell_126 (fun H locs hP hD hS => ?_)
                        have hP : va_P (dC, dI) vwCl [(t, .inr (6, [.ref tp, .ref tv, .ref tl, .ref td, .ref tq])), (tp, .inl (cI, nt, .inl (fun j => oI (g j)))), (tv, .inl (cI, nt, .inl (fun j => nI (vs j)))), (tl, .inl (cI, nt, .inl (fun j => nI (lq j)))), (td, .inl (cZ, nt, .inl (fun j => bI ((va_up dx (q k_) true) j)))), (tq, .inl (cI, 3, .inl (fun j => nI ((m_pre q rw pa) j)))), (wr, .inr (7, [.int (nI ((bitW ms sg (decide (vs (q k_) = lw))).2.1)), .ref br, .ref bg, .int (nI ((bitW ms sg (decide (vs (q k_) = lw))).2.2.2.1)), .int (bI ms), .int (nI ((bitW ms sg (decide (vs (q k_) = lw))).2.2.2.2.1)), .int (nI ((bitW ms sg (decide (vs (q k_) = lw))).2.2.2.2.2))])), (br, .inr (0, [.ref row, .int (nI bz)])), (row, .inl (cI, 6000, .inl (fun j => nI (((bitW ms sg (decide (vs (q k_) = lw))).2.2.1) j))))] H := hP
                        have hD : va_D A [(t, .inr (6, [.ref tp, .ref tv, .ref tl, .ref td, .ref tq])), (tp, .inl (cI, nt, .inl (fun j => oI (g j)))), (tv, .inl (cI, nt, .inl (fun j => nI (vs j)))), (tl, .inl (cI, nt, .inl (fun j => nI (lq j)))), (td, .inl (cZ, nt, .inl (fun j => bI ((va_up dx (q k_) true) j)))), (tq, .inl (cI, 3, .inl (fun j => nI ((m_pre q rw pa) j)))), (wr, .inr (7, [.int (nI ((bitW ms sg (decide (vs (q k_) = lw))).2.1)), .ref br, .ref bg, .int (nI ((bitW ms sg (decide (vs (q k_) = lw))).2.2.2.1)), .int (bI ms), .int (nI ((bitW ms sg (decide (vs (q k_) = lw))).2.2.2.2.1)), .int (nI ((bitW ms sg (decide (vs (q k_) = lw))).2.2.2.2.2))])), (br, .inr (0, [.ref row, .int (nI bz)])), (row, .inl (cI, 6000, .inl (fun j => nI (((bitW ms sg (decide (vs (q k_) = lw))).2.2.1) j))))] := hD
                        refine lv_goto (tgt := 79) hx hb dTR_tell_127 (by decide) ?_
                        exact ih_79 lw (va_up dx (q k_) true) ((bitW ms sg (decide (vs (q k_) = lw))).2) _ _ _ (by rw [va_up_self]; rw [c_92] at hmeas; show _ + 0 < _; have h9 : b2n (!false) = 1 := rfl; omega) hlw (by rw [va_up_self]; exact okW_bit (okW_le hok2 (by rw [c_92]; show _ ≤ _ + (_ + 1); exact Nat.le_refl _)) _) ((t_lp_t (bitW ms) c_82 c_92 c_116).symm.trans hf2) hP hD hS (lv_sub hl [0, 1, 2, 3, 4, 5, 6, 7] rfl)
                    refine qn_cne (tgt := 112) hx hb dTR_tell_105 (by decide) (by have := hv (q k_); omega) (by omega) (fun c_105 => ?_) (fun c_105 => ?_)
                    · refine lv_iconst (v := nI 0) hx hb dTR_tell_112 (by decide +kernel) ?_
                      exact qn_eq (by rw [decide_eq_false (by first | exact c_105 | exact Int32.not_lt.mpr c_105 | exact Int32.not_le.mpr c_105 | omega)]; rfl) jn_113
                    · refine lv_iconst (v := nI 1) hx hb dTR_tell_108 (by decide +kernel) ?_
                      refine lv_goto (tgt := 113) hx hb dTR_tell_109 (by decide) ?_
                      exact qn_eq (by rw [decide_eq_true (by first | exact c_105 | exact Int32.not_le.mp c_105 | exact Int32.not_lt.mp c_105 | omega)]; rfl) jn_113
            exact lp_79 _ (max low (lq (q k_))) dq sq _ _ _ (Nat.lt_succ_self _) (by have := hlq (q k_); omega) (okW_le hok (by rw [Nat.succ_mul]; have := b2n_le (!dq (q k_)); omega)) rfl hP hD hS (lv_sub hl [0, 1, 2, 3, 4, 5, 6, 7] rfl)
      exact lp_51 _ rw 0 lo dn σ _ _ _ (Nat.lt_succ_self _) (Nat.le_refl _) (by omega) hlo hok rfl hP hD hS (lv_sub hl [0, 1, 2, 3, 4, 5, 6] rfl)
  have lp_6 : ∀ (fu : Nat) (i : Nat) (o : Option Nat) (H : Heap) (locs : List Loc) (ls : Array Slot), rw - i < fu → (i ≤ rw) → ((i < rw → o = some (q i)) ∧ (i = rw → rw = 3 ∨ o = none)) → va_P (dC, dI) vwCl [(t, .inr (6, [.ref tp, .ref tv, .ref tl, .ref td, .ref tq])), (tp, .inl (cI, nt, .inl (fun j => oI (g j)))), (tv, .inl (cI, nt, .inl (fun j => nI (vs j)))), (tl, .inl (cI, nt, .inl (fun j => nI (lo j)))), (td, .inl (cZ, nt, .inl (fun j => bI (dn j)))), (tq, .inl (cI, 3, .inl (fun j => nI ((m_pre q i pa) j)))), (wr, .inr (7, [.int (nI σ.1), .ref br, .ref bg, .int (nI σ.2.2.1), .int (bI ms), .int (nI σ.2.2.2.1), .int (nI σ.2.2.2.2)])), (br, .inr (0, [.ref row, .int (nI bz)])), (row, .inl (cI, 6000, .inl (fun j => nI (σ.2.1 j))))] H → va_D A [(t, .inr (6, [.ref tp, .ref tv, .ref tl, .ref td, .ref tq])), (tp, .inl (cI, nt, .inl (fun j => oI (g j)))), (tv, .inl (cI, nt, .inl (fun j => nI (vs j)))), (tl, .inl (cI, nt, .inl (fun j => nI (lo j)))), (td, .inl (cZ, nt, .inl (fun j => bI (dn j)))), (tq, .inl (cI, 3, .inl (fun j => nI ((m_pre q i pa) j)))), (wr, .inr (7, [.int (nI σ.1), .ref br, .ref bg, .int (nI σ.2.2.1), .int (bI ms), .int (nI σ.2.2.2.1), .int (nI σ.2.2.2.2)])), (br, .inr (0, [.ref row, .int (nI bz)])), (row, .inl (cI, 6000, .inl (fun j => nI (σ.2.1 j))))] → va_S A s.heap H locs → lv_has ls 8 [(5, .int (oI o)), (4, .int (nI i)), (0, .ref t), (1, .ref wr), (2, .int (nI le)), (3, .int (nI en))] → W p l e (headSpec wsTR_tell (rmD 1)).room s m [.ref t, .ref wr, .int (nI le), .int (nI en)].toArray below meth c H locs 0 0 Q (F0 m 6 ls []) := by
    intro fu
    induction fu with
    | zero => intro i o H locs ls hmeas; exact absurd hmeas (Nat.not_lt_zero _)
    | succ fu ih_6 =>
      intro i o H locs ls hmeas hi ho hP hD hS hl
      refine lv_iload hx hb dTR_tell_6 (lv_at hl 0 rfl) ?_
      refine lv_iconst (v := (-1)) hx hb dTR_tell_8 (by decide +kernel) ?_
      refine qo_ceq (tgt := 42) hx hb dTR_tell_9 (by decide) (fun c_9 => ?_) (fun nd c_9 => ?_)
      · have hi9 : i = rw := by
          rcases Nat.lt_or_ge i rw with h | h
          · exact absurd c_9 (by rw [ho.1 h]; exact nI_nm1 (by have := hqn i h; omega))
          · omega
        rw [hi9] at hP hD hl
        exact lp_42 _  _ _ _ (Nat.lt_succ_self 0)  hP hD hS (lv_sub hl [1, 2, 3, 4, 5] rfl)
      · have hl : lv_has ls 8 [(5, .int (nI nd)), (4, .int (nI i)), (0, .ref t), (1, .ref wr), (2, .int (nI le)), (3, .int (nI en))] := by rw [c_9] at hl; exact hl
        refine lv_iload hx hb dTR_tell_12 (lv_at hl 1 rfl) ?_
        refine lv_iconst (v := nI 3) hx hb dTR_tell_14 (by decide +kernel) ?_
        refine qn_cge (tgt := 42) hx hb dTR_tell_15 (by decide) (by omega) (by omega) (fun c_15 => ?_) (fun c_15 => ?_)
        · have hi9 : i = rw := by omega
          rw [hi9] at hP hD hl
          exact lp_42 _  _ _ _ (Nat.lt_succ_self 0)  hP hD hS (lv_sub hl [1, 2, 3, 4, 5] rfl)
        · have hlt : i < rw := by
            rcases Nat.lt_or_ge i rw with h | h
            · exact h
            · rcases ho.2 (by omega) with h9 | h9
              · omega
              · rw [h9] at c_9; cases c_9
          have hnd : nd = q i := by have := (ho.1 hlt); rw [c_9] at this; exact Option.some.inj this
          refine lv_aload_n hx hb dTR_tell_18 rfl (lv_at hl 2 rfl) ?_
          refine va_get (D := (dC, dI)) (ci := 6) (v := .ref tq) (C := "PacketRows$Tree") (T := TTR) (N := 5) hx hb hts inTR hown hK hP 0 rfl rfl 4 (by decide) (hU hts u_312) (fun _ h9 => h9) rfl dTR_tell_19 ?_
          refine lv_iload hx hb dTR_tell_22 (lv_at hl 1 rfl) ?_
          refine lv_iload hx hb dTR_tell_24 (lv_at hl 0 rfl) ?_
          refine qi_ast hx hb hK hP hD hS 5 0 rfl rfl (k := i) (v := nd) (by omega) (by omega) dTR_tell_26 (fun H locs hP hD hS => ?_)
          have hP : va_P (dC, dI) vwCl [(t, .inr (6, [.ref tp, .ref tv, .ref tl, .ref td, .ref tq])), (tp, .inl (cI, nt, .inl (fun j => oI (g j)))), (tv, .inl (cI, nt, .inl (fun j => nI (vs j)))), (tl, .inl (cI, nt, .inl (fun j => nI (lo j)))), (td, .inl (cZ, nt, .inl (fun j => bI (dn j)))), (tq, .inl (cI, 3, .inl (fun j => nI ((va_up (m_pre q i pa) i nd) j)))), (wr, .inr (7, [.int (nI σ.1), .ref br, .ref bg, .int (nI σ.2.2.1), .int (bI ms), .int (nI σ.2.2.2.1), .int (nI σ.2.2.2.2)])), (br, .inr (0, [.ref row, .int (nI bz)])), (row, .inl (cI, 6000, .inl (fun j => nI (σ.2.1 j))))] H := hP
          have hD : va_D A [(t, .inr (6, [.ref tp, .ref tv, .ref tl, .ref td, .ref tq])), (tp, .inl (cI, nt, .inl (fun j => oI (g j)))), (tv, .inl (cI, nt, .inl (fun j => nI (vs j)))), (tl, .inl (cI, nt, .inl (fun j => nI (lo j)))), (td, .inl (cZ, nt, .inl (fun j => bI (dn j)))), (tq, .inl (cI, 3, .inl (fun j => nI ((va_up (m_pre q i pa) i nd) j)))), (wr, .inr (7, [.int (nI σ.1), .ref br, .ref bg, .int (nI σ.2.2.1), .int (bI ms), .int (nI σ.2.2.2.1), .int (nI σ.2.2.2.2)])), (br, .inr (0, [.ref row, .int (nI bz)])), (row, .inl (cI, 6000, .inl (fun j => nI (σ.2.1 j))))] := hD
          refine lv_iinc (v := nI (i + 1)) (lv' := [(4, .int (nI (i + 1))), (5, .int (nI nd)), (0, .ref t), (1, .ref wr), (2, .int (nI le)), (3, .int (nI en))]) hx hb dTR_tell_27 hl (k := 1) rfl (nI_inc _) (by decide) rfl (fun ls hl => ?_)
          refine lv_aload_n hx hb dTR_tell_30 rfl (lv_at hl 2 rfl) ?_
          refine va_get (D := (dC, dI)) (ci := 6) (v := .ref tp) (C := "PacketRows$Tree") (T := TTR) (N := 5) hx hb hts inTR hown hK hP 0 rfl rfl 0 (by decide) (hU hts u_308) (fun _ h9 => h9) rfl dTR_tell_31 ?_
          refine lv_iload hx hb dTR_tell_34 (lv_at hl 1 rfl) ?_
          refine qo_ald hx hb hK hP 1 0 rfl rfl (k := nd) (by rw [hnd]; exact hqn i hlt) (by omega) dTR_tell_36 ?_
          refine lv_istore (lv' := [(5, .int (oI (g nd))), (4, .int (nI (i + 1))), (0, .ref t), (1, .ref wr), (2, .int (nI le)), (3, .int (nI en))]) hx hb dTR_tell_37 hl (by decide) rfl (fun ls hl => ?_)
          refine lv_goto (tgt := 6) hx hb dTR_tell_39 (by decide) ?_
          exact ih_6 (i + 1) (g nd) _ _ _ (by omega) (by omega) (⟨fun h => by rw [hnd]; exact hq i h, fun h => by rw [hnd, show i = rw - 1 by omega]; exact hx9⟩) (by rw [hnd, m_pre_s] at hP; exact hP) (by rw [hnd, m_pre_s] at hD; exact hD) hS (lv_sub hl [0, 1, 2, 3, 4, 5] rfl)
  exact lp_6 _ 0 (some le) _ _ _ (Nat.lt_succ_self _) (by omega) (⟨fun _ => by rw [h0], fun h => by omega⟩) (by rw [m_pre_0]; exact hP) (by rw [m_pre_0]; exact hD) hS (lv_sub hl [0, 1, 2, 3, 4, 5] rfl)
set_option maxHeartbeats 4000000 in
set_option maxRecDepth 100000 in
theorem k_Tree_tell_R (l : Launch) (dC : Nat → ClassId) (dI : Nat → Nat → Nat) (cI cZ cL : ClassId) (t tp tv tl td tq nt : Nat) (g : Nat → Option Nat) (vs lo pa : Nat → Nat) (dn : Nat → Bool) (rd br row bz : Nat) (f : Nat → Nat) (σ : rS) (le en rw : Nat) (q : Nat → Nat) (hn : nt < 2 ^ 30) (hle : le < nt) (hen : en < 2 ^ 20) (hr : 1 ≤ rw ∧ rw ≤ 3) (h0 : q 0 = le) (hq : ∀ k, k + 1 < rw → g (q k) = some (q (k + 1))) (hx9 : rw = 3 ∨ g (q (rw - 1)) = none) (hqn : ∀ k, k < rw → q k < nt) (hv : ∀ j, vs j < 2 ^ 30) (hlo : ∀ j, lo j < 2 ^ 30) (hok : okR bz σ) (hbz : bz ≤ 6000) (hf5 : ∀ j, f j < 256) :
    q_CI l (dC, dI) vwCl (tyL cI cZ cL) yTR_tell wsTR_tell (rmD 1) [.ref t, .ref rd, .int (nI le), .int (nI en)] [(t, .inr (6, [.ref tp, .ref tv, .ref tl, .ref td, .ref tq])), (tp, .inl (cI, nt, .inl (fun j => oI (g j)))), (tv, .inl (cI, nt, .inl (fun j => nI (vs j)))), (tl, .inl (cI, nt, .inl (fun j => nI (lo j)))), (td, .inl (cZ, nt, .inl (fun j => bI (dn j)))), (tq, .inl (cI, 3, .inl (fun j => nI (pa j)))), (rd, .inr (4, [.int (nI σ.1), .ref br, .int (nI σ.2.1), .int (nI σ.2.2.1), .int (nI σ.2.2.2)])), (br, .inr (0, [.ref row, .int (nI bz)])), (row, .inl (cI, 6000, .inl (fun j => nI (f j))))] (fun (z : Int32) (_ : Unit) => z = nI ((t_rows (bitR f bz) vs en q rw (0, lo, dn, σ)).1)) (fun (_ : Unit) => [(t, .inr (6, [.ref tp, .ref tv, .ref tl, .ref td, .ref tq])), (tp, .inl (cI, nt, .inl (fun j => oI (g j)))), (tv, .inl (cI, nt, .inl (fun j => nI (vs j)))), (tl, .inl (cI, nt, .inl (fun j => nI (((t_rows (bitR f bz) vs en q rw (0, lo, dn, σ)).2.1) j)))), (td, .inl (cZ, nt, .inl (fun j => bI (((t_rows (bitR f bz) vs en q rw (0, lo, dn, σ)).2.2.1) j)))), (tq, .inl (cI, 3, .inl (fun j => nI ((m_pre q rw pa) j)))), (rd, .inr (4, [.int (nI ((t_rows (bitR f bz) vs en q rw (0, lo, dn, σ)).2.2.2.1)), .ref br, .int (nI ((t_rows (bitR f bz) vs en q rw (0, lo, dn, σ)).2.2.2.2.1)), .int (nI ((t_rows (bitR f bz) vs en q rw (0, lo, dn, σ)).2.2.2.2.2.1)), .int (nI ((t_rows (bitR f bz) vs en q rw (0, lo, dn, σ)).2.2.2.2.2.2))])), (br, .inr (0, [.ref row, .int (nI bz)])), (row, .inl (cI, 6000, .inl (fun j => nI (f j))))]) := by
  refine q_entI "PacketRows$Tree" (by decide) rfl (fun _ _ _ => rfl) rfl (Nat.le_of_ble_eq_true rfl) ?_
  intro p e s m below meth c ls Q A hx hb hml hts hown hP hD hK hZ hO hA hS hl hret
  have hl : lv_has ls 8 [(0, .ref t), (1, .ref rd), (2, .int (nI le)), (3, .int (nI en))] := hl
  refine lv_iconst (v := nI 0) hx hb dTR_tell_0 (by decide +kernel) ?_
  refine lv_istore (lv' := [(4, .int (nI 0)), (0, .ref t), (1, .ref rd), (2, .int (nI le)), (3, .int (nI en))]) hx hb dTR_tell_1 hl (by decide) rfl (fun ls hl => ?_)
  refine lv_iload_n hx hb dTR_tell_3 rfl (lv_at hl 3 rfl) ?_
  refine lv_istore (lv' := [(5, .int (nI le)), (4, .int (nI 0)), (0, .ref t), (1, .ref rd), (2, .int (nI le)), (3, .int (nI en))]) hx hb dTR_tell_4 hl (by decide) rfl (fun ls hl => ?_)
  have lp_42 : ∀ (fu : Nat)  (H : Heap) (locs : List Loc) (ls : Array Slot), 0 < fu → va_P (dC, dI) vwCl [(t, .inr (6, [.ref tp, .ref tv, .ref tl, .ref td, .ref tq])), (tp, .inl (cI, nt, .inl (fun j => oI (g j)))), (tv, .inl (cI, nt, .inl (fun j => nI (vs j)))), (tl, .inl (cI, nt, .inl (fun j => nI (lo j)))), (td, .inl (cZ, nt, .inl (fun j => bI (dn j)))), (tq, .inl (cI, 3, .inl (fun j => nI ((m_pre q rw pa) j)))), (rd, .inr (4, [.int (nI σ.1), .ref br, .int (nI σ.2.1), .int (nI σ.2.2.1), .int (nI σ.2.2.2)])), (br, .inr (0, [.ref row, .int (nI bz)])), (row, .inl (cI, 6000, .inl (fun j => nI (f j))))] H → va_D A [(t, .inr (6, [.ref tp, .ref tv, .ref tl, .ref td, .ref tq])), (tp, .inl (cI, nt, .inl (fun j => oI (g j)))), (tv, .inl (cI, nt, .inl (fun j => nI (vs j)))), (tl, .inl (cI, nt, .inl (fun j => nI (lo j)))), (td, .inl (cZ, nt, .inl (fun j => bI (dn j)))), (tq, .inl (cI, 3, .inl (fun j => nI ((m_pre q rw pa) j)))), (rd, .inr (4, [.int (nI σ.1), .ref br, .int (nI σ.2.1), .int (nI σ.2.2.1), .int (nI σ.2.2.2)])), (br, .inr (0, [.ref row, .int (nI bz)])), (row, .inl (cI, 6000, .inl (fun j => nI (f j))))] → va_S A s.heap H locs → lv_has ls 8 [(4, .int (nI rw)), (0, .ref t), (1, .ref rd), (2, .int (nI le)), (3, .int (nI en))] → W p l e (headSpec wsTR_tell (rmD 1)).room s m [.ref t, .ref rd, .int (nI le), .int (nI en)].toArray below meth c H locs 0 0 Q (F0 m 42 ls []) := by
    intro fu
    induction fu with
    | zero => intro  H locs ls hmeas; exact absurd hmeas (Nat.not_lt_zero _)
    | succ fu ih_42 =>
      intro  H locs ls hmeas  hP hD hS hl
      refine lv_iconst (v := nI 0) hx hb dTR_tell_42 (by decide +kernel) ?_
      refine lv_istore (lv' := [(5, .int (nI 0)), (4, .int (nI rw)), (0, .ref t), (1, .ref rd), (2, .int (nI le)), (3, .int (nI en))]) hx hb dTR_tell_43 hl (by decide) rfl (fun ls hl => ?_)
      refine lv_iload hx hb dTR_tell_45 (lv_at hl 1 rfl) ?_
      refine lv_iconst (v := nI 1) hx hb dTR_tell_47 (by decide +kernel) ?_
      refine lv_isub hx hb dTR_tell_48 ?_
      refine qn_eq (y := eI rw) rfl ?_
      refine lv_istore (lv' := [(6, .int (eI rw)), (5, .int (nI 0)), (4, .int (nI rw)), (0, .ref t), (1, .ref rd), (2, .int (nI le)), (3, .int (nI en))]) hx hb dTR_tell_49 hl (by decide) rfl (fun ls hl => ?_)
      have lp_51 : ∀ (fu : Nat) (i low : Nat) (lq : Nat → Nat) (dq : Nat → Bool) (sq : rS) (H : Heap) (locs : List Loc) (ls : Array Slot), i < fu → (i ≤ rw) → (low < 2 ^ 30) → (∀ j, lq j < 2 ^ 30) → (okR bz sq) → (t_rows (bitR f bz) vs en q i (low, lq, dq, sq) = t_rows (bitR f bz) vs en q rw (0, lo, dn, σ)) → va_P (dC, dI) vwCl [(t, .inr (6, [.ref tp, .ref tv, .ref tl, .ref td, .ref tq])), (tp, .inl (cI, nt, .inl (fun j => oI (g j)))), (tv, .inl (cI, nt, .inl (fun j => nI (vs j)))), (tl, .inl (cI, nt, .inl (fun j => nI (lq j)))), (td, .inl (cZ, nt, .inl (fun j => bI (dq j)))), (tq, .inl (cI, 3, .inl (fun j => nI ((m_pre q rw pa) j)))), (rd, .inr (4, [.int (nI sq.1), .ref br, .int (nI sq.2.1), .int (nI sq.2.2.1), .int (nI sq.2.2.2)])), (br, .inr (0, [.ref row, .int (nI bz)])), (row, .inl (cI, 6000, .inl (fun j => nI (f j))))] H → va_D A [(t, .inr (6, [.ref tp, .ref tv, .ref tl, .ref td, .ref tq])), (tp, .inl (cI, nt, .inl (fun j => oI (g j)))), (tv, .inl (cI, nt, .inl (fun j => nI (vs j)))), (tl, .inl (cI, nt, .inl (fun j => nI (lq j)))), (td, .inl (cZ, nt, .inl (fun j => bI (dq j)))), (tq, .inl (cI, 3, .inl (fun j => nI ((m_pre q rw pa) j)))), (rd, .inr (4, [.int (nI sq.1), .ref br, .int (nI sq.2.1), .int (nI sq.2.2.1), .int (nI sq.2.2.2)])), (br, .inr (0, [.ref row, .int (nI bz)])), (row, .inl (cI, 6000, .inl (fun j => nI (f j))))] → va_S A s.heap H locs → lv_has ls 8 [(6, .int (eI i)), (5, .int (nI low)), (4, .int (nI rw)), (0, .ref t), (1, .ref rd), (2, .int (nI le)), (3, .int (nI en))] → W p l e (headSpec wsTR_tell (rmD 1)).room s m [.ref t, .ref rd, .int (nI le), .int (nI en)].toArray below meth c H locs 0 0 Q (F0 m 51 ls []) := by
        intro fu
        induction fu with
        | zero => intro i low lq dq sq H locs ls hmeas; exact absurd hmeas (Nat.not_lt_zero _)
        | succ fu ih_51 =>
          intro i low lq dq sq H locs ls hmeas hi hlow hlq hok hf hP hD hS hl
          refine lv_iload hx hb dTR_tell_51 (lv_at hl 0 rfl) ?_
          refine qd_ilt (tgt := 151) hx hb dTR_tell_53 (by decide) (fun c_53 => ?_) (fun k_ c_53 => ?_)
          · subst c_53
            refine lv_iload hx hb dTR_tell_151 (lv_at hl 1 rfl) ?_
            have e9 : (low, lq, dq, sq) = t_rows (bitR f bz) vs en q rw (0, lo, dn, σ) := hf
            exact hret _ () _ _ _ _ dTR_tell_153 (by rw [← e9]) (by rw [← e9]; exact hP) hS
          · subst c_53
            have hl : lv_has ls 8 [(6, .int (nI k_)), (5, .int (nI low)), (4, .int (nI rw)), (0, .ref t), (1, .ref rd), (2, .int (nI le)), (3, .int (nI en))] := by rw [eI_succ] at hl; exact hl
            refine lv_aload_n hx hb dTR_tell_56 rfl (lv_at hl 3 rfl) ?_
            refine va_get (D := (dC, dI)) (ci := 6) (v := .ref tq) (C := "PacketRows$Tree") (T := TTR) (N := 5) hx hb hts inTR hown hK hP 0 rfl rfl 4 (by decide) (hU hts u_312) (fun _ h9 => h9) rfl dTR_tell_57 ?_
            refine lv_iload hx hb dTR_tell_60 (lv_at hl 0 rfl) ?_
            refine qi_ald hx hb hK hP 5 0 rfl rfl (k := k_) (by omega) (by omega) dTR_tell_62 ?_
            refine qn_eq (y := nI (q k_)) (by rw [m_pre_at (by omega)]) ?_
            refine lv_istore (lv' := [(7, .int (nI (q k_))), (6, .int (nI k_)), (5, .int (nI low)), (4, .int (nI rw)), (0, .ref t), (1, .ref rd), (2, .int (nI le)), (3, .int (nI en))]) hx hb dTR_tell_63 hl (by decide) rfl (fun ls hl => ?_)
            refine lv_iload hx hb dTR_tell_65 (lv_at hl 2 rfl) ?_
            refine lv_aload_n hx hb dTR_tell_67 rfl (lv_at hl 4 rfl) ?_
            refine va_get (D := (dC, dI)) (ci := 6) (v := .ref tl) (C := "PacketRows$Tree") (T := TTR) (N := 5) hx hb hts inTR hown hK hP 0 rfl rfl 2 (by decide) (hU hts u_310) (fun _ h9 => h9) rfl dTR_tell_68 ?_
            refine lv_iload hx hb dTR_tell_71 (lv_at hl 0 rfl) ?_
            refine qi_ald hx hb hK hP 3 0 rfl rfl (k := q k_) (hqn k_ (by omega)) (by omega) dTR_tell_73 ?_
            refine va_mmax hx hb (by rw [hml]; exact hl.1.symm) hown (hU hts u_858) (hU hts u_85) (hU hts u_42) (hU hts u_86) (Nat.le_of_ble_eq_true rfl) (Nat.le_of_ble_eq_true rfl) (Nat.le_of_ble_eq_true rfl) (Nat.le_of_ble_eq_true rfl) dTR_tell_74 ?_
            refine qn_eq (y := nI (max low (lq (q k_)))) (q_max (by omega) (by have := hlq (q k_); omega)) ?_
            refine lv_istore (lv' := [(5, .int (nI (max low (lq (q k_))))), (7, .int (nI (q k_))), (6, .int (nI k_)), (4, .int (nI rw)), (0, .ref t), (1, .ref rd), (2, .int (nI le)), (3, .int (nI en))]) hx hb dTR_tell_77 hl (by decide) rfl (fun ls hl => ?_)
            have lp_79 : ∀ (fu : Nat) (lw : Nat) (dx : Nat → Bool) (sg : rS) (H : Heap) (locs : List Loc) (ls : Array Slot), (en - lw) + b2n (!dx (q k_)) < fu → (lw < 2 ^ 30) → (okR bz sg) → (t_lp (bitR f bz) (vs (q k_)) (q k_) en (en - lw) lw dx sg = t_lp (bitR f bz) (vs (q k_)) (q k_) en (en - max low (lq (q k_))) (max low (lq (q k_))) dq sq) → va_P (dC, dI) vwCl [(t, .inr (6, [.ref tp, .ref tv, .ref tl, .ref td, .ref tq])), (tp, .inl (cI, nt, .inl (fun j => oI (g j)))), (tv, .inl (cI, nt, .inl (fun j => nI (vs j)))), (tl, .inl (cI, nt, .inl (fun j => nI (lq j)))), (td, .inl (cZ, nt, .inl (fun j => bI (dx j)))), (tq, .inl (cI, 3, .inl (fun j => nI ((m_pre q rw pa) j)))), (rd, .inr (4, [.int (nI sg.1), .ref br, .int (nI sg.2.1), .int (nI sg.2.2.1), .int (nI sg.2.2.2)])), (br, .inr (0, [.ref row, .int (nI bz)])), (row, .inl (cI, 6000, .inl (fun j => nI (f j))))] H → va_D A [(t, .inr (6, [.ref tp, .ref tv, .ref tl, .ref td, .ref tq])), (tp, .inl (cI, nt, .inl (fun j => oI (g j)))), (tv, .inl (cI, nt, .inl (fun j => nI (vs j)))), (tl, .inl (cI, nt, .inl (fun j => nI (lq j)))), (td, .inl (cZ, nt, .inl (fun j => bI (dx j)))), (tq, .inl (cI, 3, .inl (fun j => nI ((m_pre q rw pa) j)))), (rd, .inr (4, [.int (nI sg.1), .ref br, .int (nI sg.2.1), .int (nI sg.2.2.1), .int (nI sg.2.2.2)])), (br, .inr (0, [.ref row, .int (nI bz)])), (row, .inl (cI, 6000, .inl (fun j => nI (f j))))] → va_S A s.heap H locs → lv_has ls 8 [(5, .int (nI lw)), (7, .int (nI (q k_))), (6, .int (nI k_)), (4, .int (nI rw)), (0, .ref t), (1, .ref rd), (2, .int (nI le)), (3, .int (nI en))] → W p l e (headSpec wsTR_tell (rmD 1)).room s m [.ref t, .ref rd, .int (nI le), .int (nI en)].toArray below meth c H locs 0 0 Q (F0 m 79 ls []) := by
              intro fu
              induction fu with
              | zero => intro lw dx sg H locs ls hmeas; exact absurd hmeas (Nat.not_lt_zero _)
              | succ fu ih_79 =>
                intro lw dx sg H locs ls hmeas hlw hok2 hf2 hP hD hS hl
                refine lv_iload hx hb dTR_tell_79 (lv_at hl 0 rfl) ?_
                refine lv_iload_n hx hb dTR_tell_81 rfl (lv_at hl 7 rfl) ?_
                refine qn_cge (tgt := 136) hx hb dTR_tell_82 (by decide) (by omega) (by omega) (fun c_82 => ?_) (fun c_82 => ?_)
                · refine lv_aload_n hx hb dTR_tell_136 rfl (lv_at hl 4 rfl) ?_
                  refine va_get (D := (dC, dI)) (ci := 6) (v := .ref tl) (C := "PacketRows$Tree") (T := TTR) (N := 5) hx hb hts inTR hown hK hP 0 rfl rfl 2 (by decide) (hU hts u_310) (fun _ h9 => h9) rfl dTR_tell_137 ?_
                  refine lv_iload hx hb dTR_tell_140 (lv_at hl 1 rfl) ?_
                  refine lv_iload hx hb dTR_tell_142 (lv_at hl 0 rfl) ?_
                  refine qi_ast hx hb hK hP hD hS 3 0 rfl rfl (k := q k_) (v := lw) (hqn k_ (by omega)) (by omega) dTR_tell_144 (fun H locs hP hD hS => ?_)
                  have hP : va_P (dC, dI) vwCl [(t, .inr (6, [.ref tp, .ref tv, .ref tl, .ref td, .ref tq])), (tp, .inl (cI, nt, .inl (fun j => oI (g j)))), (tv, .inl (cI, nt, .inl (fun j => nI (vs j)))), (tl, .inl (cI, nt, .inl (fun j => nI ((va_up lq (q k_) lw) j)))), (td, .inl (cZ, nt, .inl (fun j => bI (dx j)))), (tq, .inl (cI, 3, .inl (fun j => nI ((m_pre q rw pa) j)))), (rd, .inr (4, [.int (nI sg.1), .ref br, .int (nI sg.2.1), .int (nI sg.2.2.1), .int (nI sg.2.2.2)])), (br, .inr (0, [.ref row, .int (nI bz)])), (row, .inl (cI, 6000, .inl (fun j => nI (f j))))] H := hP
                  have hD : va_D A [(t, .inr (6, [.ref tp, .ref tv, .ref tl, .ref td, .ref tq])), (tp, .inl (cI, nt, .inl (fun j => oI (g j)))), (tv, .inl (cI, nt, .inl (fun j => nI (vs j)))), (tl, .inl (cI, nt, .inl (fun j => nI ((va_up lq (q k_) lw) j)))), (td, .inl (cZ, nt, .inl (fun j => bI (dx j)))), (tq, .inl (cI, 3, .inl (fun j => nI ((m_pre q rw pa) j)))), (rd, .inr (4, [.int (nI sg.1), .ref br, .int (nI sg.2.1), .int (nI sg.2.2.1), .int (nI sg.2.2.2)])), (br, .inr (0, [.ref row, .int (nI bz)])), (row, .inl (cI, 6000, .inl (fun j => nI (f j))))] := hD
                  refine lv_iinc (v := eI k_) (lv' := [(6, .int (eI k_)), (5, .int (nI lw)), (7, .int (nI (q k_))), (4, .int (nI rw)), (0, .ref t), (1, .ref rd), (2, .int (nI le)), (3, .int (nI en))]) hx hb dTR_tell_145 hl (k := 2) rfl (eI_inc _) (by decide) rfl (fun ls hl => ?_)
                  refine lv_goto (tgt := 51) hx hb dTR_tell_148 (by decide) ?_
                  have e8 : (lw, dx, sg) = t_lp (bitR f bz) (vs (q k_)) (q k_) en (en - max low (lq (q k_))) (max low (lq (q k_))) dq sq := (t_lp_stop _ (fun h => by first | (have := h.1; omega) | (rw [h.2] at c_92; cases c_92))).symm.trans hf2
                  exact ih_51 k_ lw (va_up lq (q k_) lw) dx sg _ _ _ (by omega) (by omega) hlw (m_up_lt hlq hlw) hok2 (by have h9 := hf; rw [t_rows, t_nd, ← e8] at h9; exact h9) hP hD hS (lv_sub hl [0, 1, 3, 4, 5, 6, 7] rfl)
                · refine lv_aload_n hx hb dTR_tell_85 rfl (lv_at hl 4 rfl) ?_
                  refine va_get (D := (dC, dI)) (ci := 6) (v := .ref td) (C := "PacketRows$Tree") (T := TTR) (N := 5) hx hb hts inTR hown hK hP 0 rfl rfl 3 (by decide) (hU hts u_311) (fun _ h9 => h9) rfl dTR_tell_86 ?_
                  refine lv_iload hx hb dTR_tell_89 (lv_at hl 1 rfl) ?_
                  refine qz_ald hx hb hK hP 4 1 rfl rfl (k := q k_) (hqn k_ (by omega)) (by omega) dTR_tell_91 ?_
                  refine qb_ine (tgt := 136) hx hb dTR_tell_92 (by decide) (fun c_92 => ?_) (fun c_92 => ?_)
                  · refine lv_aload_n hx hb dTR_tell_136 rfl (lv_at hl 4 rfl) ?_
                    refine va_get (D := (dC, dI)) (ci := 6) (v := .ref tl) (C := "PacketRows$Tree") (T := TTR) (N := 5) hx hb hts inTR hown hK hP 0 rfl rfl 2 (by decide) (hU hts u_310) (fun _ h9 => h9) rfl dTR_tell_137 ?_
                    refine lv_iload hx hb dTR_tell_140 (lv_at hl 1 rfl) ?_
                    refine lv_iload hx hb dTR_tell_142 (lv_at hl 0 rfl) ?_
                    refine qi_ast hx hb hK hP hD hS 3 0 rfl rfl (k := q k_) (v := lw) (hqn k_ (by omega)) (by omega) dTR_tell_144 (fun H locs hP hD hS => ?_)
                    have hP : va_P (dC, dI) vwCl [(t, .inr (6, [.ref tp, .ref tv, .ref tl, .ref td, .ref tq])), (tp, .inl (cI, nt, .inl (fun j => oI (g j)))), (tv, .inl (cI, nt, .inl (fun j => nI (vs j)))), (tl, .inl (cI, nt, .inl (fun j => nI ((va_up lq (q k_) lw) j)))), (td, .inl (cZ, nt, .inl (fun j => bI (dx j)))), (tq, .inl (cI, 3, .inl (fun j => nI ((m_pre q rw pa) j)))), (rd, .inr (4, [.int (nI sg.1), .ref br, .int (nI sg.2.1), .int (nI sg.2.2.1), .int (nI sg.2.2.2)])), (br, .inr (0, [.ref row, .int (nI bz)])), (row, .inl (cI, 6000, .inl (fun j => nI (f j))))] H := hP
                    have hD : va_D A [(t, .inr (6, [.ref tp, .ref tv, .ref tl, .ref td, .ref tq])), (tp, .inl (cI, nt, .inl (fun j => oI (g j)))), (tv, .inl (cI, nt, .inl (fun j => nI (vs j)))), (tl, .inl (cI, nt, .inl (fun j => nI ((va_up lq (q k_) lw) j)))), (td, .inl (cZ, nt, .inl (fun j => bI (dx j)))), (tq, .inl (cI, 3, .inl (fun j => nI ((m_pre q rw pa) j)))), (rd, .inr (4, [.int (nI sg.1), .ref br, .int (nI sg.2.1), .int (nI sg.2.2.1), .int (nI sg.2.2.2)])), (br, .inr (0, [.ref row, .int (nI bz)])), (row, .inl (cI, 6000, .inl (fun j => nI (f j))))] := hD
                    refine lv_iinc (v := eI k_) (lv' := [(6, .int (eI k_)), (5, .int (nI lw)), (7, .int (nI (q k_))), (4, .int (nI rw)), (0, .ref t), (1, .ref rd), (2, .int (nI le)), (3, .int (nI en))]) hx hb dTR_tell_145 hl (k := 2) rfl (eI_inc _) (by decide) rfl (fun ls hl => ?_)
                    refine lv_goto (tgt := 51) hx hb dTR_tell_148 (by decide) ?_
                    have e8 : (lw, dx, sg) = t_lp (bitR f bz) (vs (q k_)) (q k_) en (en - max low (lq (q k_))) (max low (lq (q k_))) dq sq := (t_lp_stop _ (fun h => by first | (have := h.1; omega) | (rw [h.2] at c_92; cases c_92))).symm.trans hf2
                    exact ih_51 k_ lw (va_up lq (q k_) lw) dx sg _ _ _ (by omega) (by omega) hlw (m_up_lt hlq hlw) hok2 (by have h9 := hf; rw [t_rows, t_nd, ← e8] at h9; exact h9) hP hD hS (lv_sub hl [0, 1, 3, 4, 5, 6, 7] rfl)
                  · refine lv_aload_n hx hb dTR_tell_95 rfl (lv_at hl 5 rfl) ?_
                    refine lv_aload_n hx hb dTR_tell_96 rfl (lv_at hl 4 rfl) ?_
                    refine va_get (D := (dC, dI)) (ci := 6) (v := .ref tv) (C := "PacketRows$Tree") (T := TTR) (N := 5) hx hb hts inTR hown hK hP 0 rfl rfl 1 (by decide) (hU hts u_309) (fun _ h9 => h9) rfl dTR_tell_97 ?_
                    refine lv_iload hx hb dTR_tell_100 (lv_at hl 1 rfl) ?_
                    refine qi_ald hx hb hK hP 2 0 rfl rfl (k := q k_) (hqn k_ (by omega)) (by omega) dTR_tell_102 ?_
                    refine lv_iload hx hb dTR_tell_103 (lv_at hl 0 rfl) ?_
                    have jn_113 : W p l e (headSpec wsTR_tell (rmD 1)).room s m [.ref t, .ref rd, .int (nI le), .int (nI en)].toArray below meth c H locs 0 0 Q (F0 m 113 ls [.int (bI (decide (vs (q k_) = lw))), .ref rd]) := by
                      refine q_calli (va_runU (As := [.int (bI (decide (vs (q k_) = lw)))]) (rest := []) ⟨hx, hb, hml, hown, hts⟩ (k_Reader_bit l dC dI cI cZ cL rd br row bz f sg (decide (vs (q k_) = lw)) hok2 hbz hf5 H.size) (va_cwA (C := "PacketRows$Reader") (owner := "PacketRows$Bits") (x := ⟨"PacketRows$Bits", "bit", "(Z)Z"⟩) 1 hts (gA u_859 u_842 u_843 u_844 u_48 u_845) rfl rfl rfl (hZ.1 _ z_9) (by decide +kernel) ⟨Nat.le_of_ble_eq_true rfl, Nat.le_of_ble_eq_true rfl⟩) (q_preMV hK hZ hO hS hA hP hD [6, 7, 8] rfl (by decide) rfl rfl) rfl rfl hl.1 rfl (lv_room (Nat.le_of_ble_eq_true rfl)) dTR_tell_113 ⟨Nat.le_of_ble_eq_true rfl, Nat.le_of_ble_eq_true rfl⟩) hP hD hS hA [6, 7, 8] rfl (by decide) (fun _ => by simp only [List.map_cons, List.map_nil]) (fun r_ u_ H locs hpost hP hD hS => ?_)
                      have hP : va_P (dC, dI) vwCl [(t, .inr (6, [.ref tp, .ref tv, .ref tl, .ref td, .ref tq])), (tp, .inl (cI, nt, .inl (fun j => oI (g j)))), (tv, .inl (cI, nt, .inl (fun j => nI (vs j)))), (tl, .inl (cI, nt, .inl (fun j => nI (lq j)))), (td, .inl (cZ, nt, .inl (fun j => bI (dx j)))), (tq, .inl (cI, 3, .inl (fun j => nI ((m_pre q rw pa) j)))), (rd, .inr (4, [.int (nI ((bitR f bz sg false).2.1)), .ref br, .int (nI ((bitR f bz sg false).2.2.1)), .int (nI ((bitR f bz sg false).2.2.2.1)), .int (nI ((bitR f bz sg false).2.2.2.2))])), (br, .inr (0, [.ref row, .int (nI bz)])), (row, .inl (cI, 6000, .inl (fun j => nI (f j))))] H := hP
                      have hD : va_D A [(t, .inr (6, [.ref tp, .ref tv, .ref tl, .ref td, .ref tq])), (tp, .inl (cI, nt, .inl (fun j => oI (g j)))), (tv, .inl (cI, nt, .inl (fun j => nI (vs j)))), (tl, .inl (cI, nt, .inl (fun j => nI (lq j)))), (td, .inl (cZ, nt, .inl (fun j => bI (dx j)))), (tq, .inl (cI, 3, .inl (fun j => nI ((m_pre q rw pa) j)))), (rd, .inr (4, [.int (nI ((bitR f bz sg false).2.1)), .ref br, .int (nI ((bitR f bz sg false).2.2.1)), .int (nI ((bitR f bz sg false).2.2.2.1)), .int (nI ((bitR f bz sg false).2.2.2.2))])), (br, .inr (0, [.ref row, .int (nI bz)])), (row, .inl (cI, 6000, .inl (fun j => nI (f j))))] := hD
                      subst hpost
                      refine qb_ieq (tgt := 130) hx hb dTR_tell_116 (by decide) (fun c_116 => ?_) (fun c_116 => ?_)
                      · refine lv_iinc (v := nI (lw + 1)) (lv' := [(5, .int (nI (lw + 1))), (7, .int (nI (q k_))), (6, .int (nI k_)), (4, .int (nI rw)), (0, .ref t), (1, .ref rd), (2, .int (nI le)), (3, .int (nI en))]) hx hb dTR_tell_130 hl (k := 0) rfl (nI_inc _) (by decide) rfl (fun ls hl => ?_)
                        refine lv_goto (tgt := 79) hx hb dTR_tell_133 (by decide) ?_
                        exact ih_79 (lw + 1) dx ((bitR f bz sg (decide (vs (q k_) = lw))).2) _ _ _ (by omega) (by omega) (okR_bit hf5 hok2 _) ((t_lp_f (bitR f bz) c_82 c_92 c_116).symm.trans hf2) hP hD hS (lv_sub hl [0, 1, 2, 3, 4, 5, 6, 7] rfl)
                      · refine lv_aload_n hx hb dTR_tell_119 rfl (lv_at hl 4 rfl) ?_
                        refine va_get (D := (dC, dI)) (ci := 6) (v := .ref td) (C := "PacketRows$Tree") (T := TTR) (N := 5) hx hb hts inTR hown hK hP 0 rfl rfl 3 (by decide) (hU hts u_311) (fun _ h9 => h9) rfl dTR_tell_120 ?_
                        refine lv_iload hx hb dTR_tell_123 (lv_at hl 1 rfl) ?_
                        refine lv_iconst (v := bI true) hx hb dTR_tell_125 (by decide +kernel) ?_
                        refine qz_ast hx hb hK hP hD hS 4 1 rfl rfl (k := q k_) (v := true) (hqn k_ (by omega)) (by omega) dTR_tell_126 (fun H locs hP hD hS => ?_)
                        have hP : va_P (dC, dI) vwCl [(t, .inr (6, [.ref tp, .ref tv, .ref tl, .ref td, .ref tq])), (tp, .inl (cI, nt, .inl (fun j => oI (g j)))), (tv, .inl (cI, nt, .inl (fun j => nI (vs j)))), (tl, .inl (cI, nt, .inl (fun j => nI (lq j)))), (td, .inl (cZ, nt, .inl (fun j => bI ((va_up dx (q k_) true) j)))), (tq, .inl (cI, 3, .inl (fun j => nI ((m_pre q rw pa) j)))), (rd, .inr (4, [.int (nI ((bitR f bz sg false).2.1)), .ref br, .int (nI ((bitR f bz sg false).2.2.1)), .int (nI ((bitR f bz sg false).2.2.2.1)), .int (nI ((bitR f bz sg false).2.2.2.2))])), (br, .inr (0, [.ref row, .int (nI bz)])), (row, .inl (cI, 6000, .inl (fun j => nI (f j))))] H := hP
                        have hD : va_D A [(t, .inr (6, [.ref tp, .ref tv, .ref tl, .ref td, .ref tq])), (tp, .inl (cI, nt, .inl (fun j => oI (g j)))), (tv, .inl (cI, nt, .inl (fun j => nI (vs j)))), (tl, .inl (cI, nt, .inl (fun j => nI (lq j)))), (td, .inl (cZ, nt, .inl (fun j => bI ((va_up dx (q k_) true) j)))), (tq, .inl (cI, 3, .inl (fun j => nI ((m_pre q rw pa) j)))), (rd, .inr (4, [.int (nI ((bitR f bz sg false).2.1)), .ref br, .int (nI ((bitR f bz sg false).2.2.1)), .int (nI ((bitR f bz sg false).2.2.2.1)), .int (nI ((bitR f bz sg false).2.2.2.2))])), (br, .inr (0, [.ref row, .int (nI bz)])), (row, .inl (cI, 6000, .inl (fun j => nI (f j))))] := hD
                        refine lv_goto (tgt := 79) hx hb dTR_tell_127 (by decide) ?_
                        exact ih_79 lw (va_up dx (q k_) true) ((bitR f bz sg (decide (vs (q k_) = lw))).2) _ _ _ (by rw [va_up_self]; rw [c_92] at hmeas; show _ + 0 < _; have h9 : b2n (!false) = 1 := rfl; omega) hlw (okR_bit hf5 hok2 _) ((t_lp_t (bitR f bz) c_82 c_92 c_116).symm.trans hf2) hP hD hS (lv_sub hl [0, 1, 2, 3, 4, 5, 6, 7] rfl)
                    refine qn_cne (tgt := 112) hx hb dTR_tell_105 (by decide) (by have := hv (q k_); omega) (by omega) (fun c_105 => ?_) (fun c_105 => ?_)
                    · refine lv_iconst (v := nI 0) hx hb dTR_tell_112 (by decide +kernel) ?_
                      exact qn_eq (by rw [decide_eq_false (by first | exact c_105 | exact Int32.not_lt.mpr c_105 | exact Int32.not_le.mpr c_105 | omega)]; rfl) jn_113
                    · refine lv_iconst (v := nI 1) hx hb dTR_tell_108 (by decide +kernel) ?_
                      refine lv_goto (tgt := 113) hx hb dTR_tell_109 (by decide) ?_
                      exact qn_eq (by rw [decide_eq_true (by first | exact c_105 | exact Int32.not_le.mp c_105 | exact Int32.not_lt.mp c_105 | omega)]; rfl) jn_113
            exact lp_79 _ (max low (lq (q k_))) dq sq _ _ _ (Nat.lt_succ_self _) (by have := hlq (q k_); omega) hok rfl hP hD hS (lv_sub hl [0, 1, 2, 3, 4, 5, 6, 7] rfl)
      exact lp_51 _ rw 0 lo dn σ _ _ _ (Nat.lt_succ_self _) (Nat.le_refl _) (by omega) hlo hok rfl hP hD hS (lv_sub hl [0, 1, 2, 3, 4, 5, 6] rfl)
  have lp_6 : ∀ (fu : Nat) (i : Nat) (o : Option Nat) (H : Heap) (locs : List Loc) (ls : Array Slot), rw - i < fu → (i ≤ rw) → ((i < rw → o = some (q i)) ∧ (i = rw → rw = 3 ∨ o = none)) → va_P (dC, dI) vwCl [(t, .inr (6, [.ref tp, .ref tv, .ref tl, .ref td, .ref tq])), (tp, .inl (cI, nt, .inl (fun j => oI (g j)))), (tv, .inl (cI, nt, .inl (fun j => nI (vs j)))), (tl, .inl (cI, nt, .inl (fun j => nI (lo j)))), (td, .inl (cZ, nt, .inl (fun j => bI (dn j)))), (tq, .inl (cI, 3, .inl (fun j => nI ((m_pre q i pa) j)))), (rd, .inr (4, [.int (nI σ.1), .ref br, .int (nI σ.2.1), .int (nI σ.2.2.1), .int (nI σ.2.2.2)])), (br, .inr (0, [.ref row, .int (nI bz)])), (row, .inl (cI, 6000, .inl (fun j => nI (f j))))] H → va_D A [(t, .inr (6, [.ref tp, .ref tv, .ref tl, .ref td, .ref tq])), (tp, .inl (cI, nt, .inl (fun j => oI (g j)))), (tv, .inl (cI, nt, .inl (fun j => nI (vs j)))), (tl, .inl (cI, nt, .inl (fun j => nI (lo j)))), (td, .inl (cZ, nt, .inl (fun j => bI (dn j)))), (tq, .inl (cI, 3, .inl (fun j => nI ((m_pre q i pa) j)))), (rd, .inr (4, [.int (nI σ.1), .ref br, .int (nI σ.2.1), .int (nI σ.2.2.1), .int (nI σ.2.2.2)])), (br, .inr (0, [.ref row, .int (nI bz)])), (row, .inl (cI, 6000, .inl (fun j => nI (f j))))] → va_S A s.heap H locs → lv_has ls 8 [(5, .int (oI o)), (4, .int (nI i)), (0, .ref t), (1, .ref rd), (2, .int (nI le)), (3, .int (nI en))] → W p l e (headSpec wsTR_tell (rmD 1)).room s m [.ref t, .ref rd, .int (nI le), .int (nI en)].toArray below meth c H locs 0 0 Q (F0 m 6 ls []) := by
    intro fu
    induction fu with
    | zero => intro i o H locs ls hmeas; exact absurd hmeas (Nat.not_lt_zero _)
    | succ fu ih_6 =>
      intro i o H locs ls hmeas hi ho hP hD hS hl
      refine lv_iload hx hb dTR_tell_6 (lv_at hl 0 rfl) ?_
      refine lv_iconst (v := (-1)) hx hb dTR_tell_8 (by decide +kernel) ?_
      refine qo_ceq (tgt := 42) hx hb dTR_tell_9 (by decide) (fun c_9 => ?_) (fun nd c_9 => ?_)
      · have hi9 : i = rw := by
          rcases Nat.lt_or_ge i rw with h | h
          · exact absurd c_9 (by rw [ho.1 h]; exact nI_nm1 (by have := hqn i h; omega))
          · omega
        rw [hi9] at hP hD hl
        exact lp_42 _  _ _ _ (Nat.lt_succ_self 0)  hP hD hS (lv_sub hl [1, 2, 3, 4, 5] rfl)
      · have hl : lv_has ls 8 [(5, .int (nI nd)), (4, .int (nI i)), (0, .ref t), (1, .ref rd), (2, .int (nI le)), (3, .int (nI en))] := by rw [c_9] at hl; exact hl
        refine lv_iload hx hb dTR_tell_12 (lv_at hl 1 rfl) ?_
        refine lv_iconst (v := nI 3) hx hb dTR_tell_14 (by decide +kernel) ?_
        refine qn_cge (tgt := 42) hx hb dTR_tell_15 (by decide) (by omega) (by omega) (fun c_15 => ?_) (fun c_15 => ?_)
        · have hi9 : i = rw := by omega
          rw [hi9] at hP hD hl
          exact lp_42 _  _ _ _ (Nat.lt_succ_self 0)  hP hD hS (lv_sub hl [1, 2, 3, 4, 5] rfl)
        · have hlt : i < rw := by
            rcases Nat.lt_or_ge i rw with h | h
            · exact h
            · rcases ho.2 (by omega) with h9 | h9
              · omega
              · rw [h9] at c_9; cases c_9
          have hnd : nd = q i := by have := (ho.1 hlt); rw [c_9] at this; exact Option.some.inj this
          refine lv_aload_n hx hb dTR_tell_18 rfl (lv_at hl 2 rfl) ?_
          refine va_get (D := (dC, dI)) (ci := 6) (v := .ref tq) (C := "PacketRows$Tree") (T := TTR) (N := 5) hx hb hts inTR hown hK hP 0 rfl rfl 4 (by decide) (hU hts u_312) (fun _ h9 => h9) rfl dTR_tell_19 ?_
          refine lv_iload hx hb dTR_tell_22 (lv_at hl 1 rfl) ?_
          refine lv_iload hx hb dTR_tell_24 (lv_at hl 0 rfl) ?_
          refine qi_ast hx hb hK hP hD hS 5 0 rfl rfl (k := i) (v := nd) (by omega) (by omega) dTR_tell_26 (fun H locs hP hD hS => ?_)
          have hP : va_P (dC, dI) vwCl [(t, .inr (6, [.ref tp, .ref tv, .ref tl, .ref td, .ref tq])), (tp, .inl (cI, nt, .inl (fun j => oI (g j)))), (tv, .inl (cI, nt, .inl (fun j => nI (vs j)))), (tl, .inl (cI, nt, .inl (fun j => nI (lo j)))), (td, .inl (cZ, nt, .inl (fun j => bI (dn j)))), (tq, .inl (cI, 3, .inl (fun j => nI ((va_up (m_pre q i pa) i nd) j)))), (rd, .inr (4, [.int (nI σ.1), .ref br, .int (nI σ.2.1), .int (nI σ.2.2.1), .int (nI σ.2.2.2)])), (br, .inr (0, [.ref row, .int (nI bz)])), (row, .inl (cI, 6000, .inl (fun j => nI (f j))))] H := hP
          have hD : va_D A [(t, .inr (6, [.ref tp, .ref tv, .ref tl, .ref td, .ref tq])), (tp, .inl (cI, nt, .inl (fun j => oI (g j)))), (tv, .inl (cI, nt, .inl (fun j => nI (vs j)))), (tl, .inl (cI, nt, .inl (fun j => nI (lo j)))), (td, .inl (cZ, nt, .inl (fun j => bI (dn j)))), (tq, .inl (cI, 3, .inl (fun j => nI ((va_up (m_pre q i pa) i nd) j)))), (rd, .inr (4, [.int (nI σ.1), .ref br, .int (nI σ.2.1), .int (nI σ.2.2.1), .int (nI σ.2.2.2)])), (br, .inr (0, [.ref row, .int (nI bz)])), (row, .inl (cI, 6000, .inl (fun j => nI (f j))))] := hD
          refine lv_iinc (v := nI (i + 1)) (lv' := [(4, .int (nI (i + 1))), (5, .int (nI nd)), (0, .ref t), (1, .ref rd), (2, .int (nI le)), (3, .int (nI en))]) hx hb dTR_tell_27 hl (k := 1) rfl (nI_inc _) (by decide) rfl (fun ls hl => ?_)
          refine lv_aload_n hx hb dTR_tell_30 rfl (lv_at hl 2 rfl) ?_
          refine va_get (D := (dC, dI)) (ci := 6) (v := .ref tp) (C := "PacketRows$Tree") (T := TTR) (N := 5) hx hb hts inTR hown hK hP 0 rfl rfl 0 (by decide) (hU hts u_308) (fun _ h9 => h9) rfl dTR_tell_31 ?_
          refine lv_iload hx hb dTR_tell_34 (lv_at hl 1 rfl) ?_
          refine qo_ald hx hb hK hP 1 0 rfl rfl (k := nd) (by rw [hnd]; exact hqn i hlt) (by omega) dTR_tell_36 ?_
          refine lv_istore (lv' := [(5, .int (oI (g nd))), (4, .int (nI (i + 1))), (0, .ref t), (1, .ref rd), (2, .int (nI le)), (3, .int (nI en))]) hx hb dTR_tell_37 hl (by decide) rfl (fun ls hl => ?_)
          refine lv_goto (tgt := 6) hx hb dTR_tell_39 (by decide) ?_
          exact ih_6 (i + 1) (g nd) _ _ _ (by omega) (by omega) (⟨fun h => by rw [hnd]; exact hq i h, fun h => by rw [hnd, show i = rw - 1 by omega]; exact hx9⟩) (by rw [hnd, m_pre_s] at hP; exact hP) (by rw [hnd, m_pre_s] at hD; exact hD) hS (lv_sub hl [0, 1, 2, 3, 4, 5] rfl)
  exact lp_6 _ 0 (some le) _ _ _ (Nat.lt_succ_self _) (by omega) (⟨fun _ => by rw [h0], fun h => by omega⟩) (by rw [m_pre_0]; exact hP) (by rw [m_pre_0]; exact hD) hS (lv_sub hl [0, 1, 2, 3, 4, 5] rfl)

/-! both read the same: a block -/
section RE9
variable {sta pr bd wd ht : Nat → Nat} {n Rz L : Nat} {f jf : Nat → Nat} {N : Nat} {jz jps jln V1 V2 : Nat → Nat}
theorem b2_flt {y b : Nat} {Y : hS rT} (h : ¬ Y.2.2.2.2.2.2.2.2.2.1 = 0) : (t_b2 (fpR f N) (flR f N) L y b Y).2.2.2.2.2.2.2.2.2.1 = Y.2.2.2.2.2.2.2.2.2.1 := by
  obtain ⟨s3, e3⟩ : ∃ z, z = fpR f N (Y.1 (b * L + y)) Y.2.2.2.2.2.2.2.2.2 := ⟨_, rfl⟩
  obtain ⟨s4, e4⟩ : ∃ z, z = flR f N s3.1 (Y.2.1 (b * L + y)) Y.2.2.2.1 b s3.2 := ⟨_, rfl⟩
  rw [t_b2_eq (fp := fpR f N) (fl := flR f N) (X := Y) e3 e4]
  have e5 : s3.2 = Y.2.2.2.2.2.2.2.2.2 := by rw [e3]; exact pass_flt h
  show s4.2.2.1 = _
  rw [e4, len_flt (by rw [e5]; exact h), e5]
theorem tz_flt {x : tX rS} {le : Nat} (h : ¬ x.2.2.2.1 = 0) : (t_z x le).1 = x.2.2.2.1 := by
  unfold t_z
  split
  · rfl
  · show m_fail x.2.2.2.1 3 = _
    unfold m_fail
    rw [if_neg h]
theorem QR_s {Y : hS rT} {Z : kS} {u : rS} {m : mS} (h : QR sta pr bd wd ht n Rz L Y Z) : QR sta pr bd wd ht n Rz L (Y.1, Y.2.1, Y.2.2.1, Y.2.2.2.1, Y.2.2.2.2.1, Y.2.2.2.2.2.1, Y.2.2.2.2.2.2.1, Y.2.2.2.2.2.2.2.1, Y.2.2.2.2.2.2.2.2.1, u) (r_s m Z) := h
set_option maxHeartbeats 8000000 in
theorem blk_rd (hf : ∀ j, j < N → f j = jf j) {s q e y : Nat} {Y : hS rT} {Z : kS} (h : shp sta pr bd wd ht n) (hR : 1 ≤ Rz ∧ Rz ≤ 4) (hL : L ≤ 8) (hgs : ∀ s, s < n → gSl Rz s < 12) (hs : s < n) (hq : q < pr s * bd s) (he : e < wd s * ht s) (hy : y < L) (hu : Y.2.2.2.2.2.2.2.2.2.1 = 0) (hb : Br N Y.2.2.2.2.2.2.2.2.2 Z.2.2.2.2.2.2.2) (hH : QR sta pr bd wd ht n Rz L Y Z)
    {Y2 : hS rT} {Z2 : kS} (eY : Y2 = t_blk (bitR f N) (fpR f N) (flR f N) V1 V2 (r_qq (aB sta wd ht s q) (wd s) (ht s) e) (m_lev (wd s) (ht s) + 1) L y (cB sta wd ht s q e) (aB sta wd ht s q + e) Y) (eZ : Z2 = r_blk true jf jz jps jln N L (144 * gSl Rz s + q * (wd s * ht s)) (wd s) (ht s) (tB Rz bd s q) e y Z) :
    Br N Y2.2.2.2.2.2.2.2.2.2 Z2.2.2.2.2.2.2.2 ∧ (Y2.2.2.2.2.2.2.2.2.2.1 = 0 → QR sta pr bd wd ht n Rz L Y2 Z2 ∧ mvQ L (cB sta wd ht s q e) (mB Rz wd ht s q e) y Y Y2 Z Z2) := by
  have em : 144 * gSl Rz s + q * (wd s * ht s) + e = mB Rz wd ht s q e := rfl
  have hsh := h.2 s hs
  obtain ⟨a1, a2, a3, a4⟩ := id hH
  obtain ⟨o1, o2, o3, o4, o5⟩ := a1 s hs q hq e he
  unfold t_blk at eY
  unfold r_blk at eZ
  rw [em] at eZ
  have ehad : r_had true Z.2.2.2.2.1 jps (mB Rz wd ht s q e) y L = Y.2.2.2.2.1 (cB sta wd ht s q e) := by unfold r_had; rw [if_pos rfl, o4]
  rw [ehad] at eZ
  by_cases cb : Y.2.2.2.2.1 (cB sta wd ht s q e) = true
  · rw [if_pos cb] at eY eZ
    obtain ⟨b1, b2⟩ := Br_bit hf hb (decide (0 < Y.1 (cB sta wd ht s q e * L + y))) (decide (0 < jps (8 * mB Rz wd ht s q e + y)))
    have hsome : ¬ Z.2.2.2.2.1 (mB Rz wd ht s q e) = none := fun z => by rw [z, cb] at o4; exact Bool.noConfusion o4
    by_cases c1 : (bitR f N Y.2.2.2.2.2.2.2.2.2 (decide (0 < Y.1 (cB sta wd ht s q e * L + y)))).1 = false
    · rw [if_pos c1] at eY
      rw [if_neg (fun z => by rw [← b1, c1] at z; exact Bool.noConfusion z.1)] at eZ
      rw [eY, eZ]
      exact ⟨b2, fun _ => ⟨hH, Or.inl ⟨rfl, rfl, rfl, rfl, rfl⟩⟩⟩
    · have c1t : (bitR f N Y.2.2.2.2.2.2.2.2.2 (decide (0 < Y.1 (cB sta wd ht s q e * L + y)))).1 = true := by
        cases e9 : (bitR f N Y.2.2.2.2.2.2.2.2.2 (decide (0 < Y.1 (cB sta wd ht s q e * L + y)))).1 with
        | true => rfl
        | false => exact absurd e9 c1
      rw [if_neg c1] at eY
      rw [if_pos ⟨by rw [← b1]; exact c1t, by rw [← b2.1]; exact bit_tr c1t⟩] at eZ
      have hr := b2_rd (jps := jps) (jln := jln) hf (Y := (Y.1, Y.2.1, Y.2.2.1, Y.2.2.2.1, Y.2.2.2.2.1, Y.2.2.2.2.2.1, Y.2.2.2.2.2.2.1, Y.2.2.2.2.2.2.2.1, Y.2.2.2.2.2.2.2.2.1, (bitR f N Y.2.2.2.2.2.2.2.2.2 (decide (0 < Y.1 (cB sta wd ht s q e * L + y)))).2)) (Z := r_s (bitM true jf N Z.2.2.2.2.2.2.2 (decide (0 < jps (8 * mB Rz wd ht s q e + y)))).2 Z) h hR hL hs hq he hy b2 (fun _ => hH)
      rw [← eY, ← eZ] at hr
      refine ⟨hr.1, fun z => ?_⟩
      obtain ⟨-, g1, k, l, g2, g3, g4, g5, g6, g7⟩ := hr.2 z
      exact ⟨g1, Or.inr ⟨k, l, 0, g2, g3, g4, g5, Or.inr ⟨hsome, g6, g7⟩⟩⟩
  · have cbf : Y.2.2.2.2.1 (cB sta wd ht s q e) = false := by
      cases e9 : Y.2.2.2.2.1 (cB sta wd ht s q e) with
      | true => exact absurd e9 cb
      | false => rfl
    have hnone : Z.2.2.2.2.1 (mB Rz wd ht s q e) = none := by
      rw [cbf] at o4
      cases e9 : Z.2.2.2.2.1 (mB Rz wd ht s q e) with
      | none => rfl
      | some v => rw [e9] at o4; exact Bool.noConfusion o4
    rw [if_neg cb] at eY eZ
    obtain ⟨T1, eT1⟩ : ∃ z, z = t_rows (bitR f N) V1 (y + 1) (r_qq (aB sta wd ht s q) (wd s) (ht s) e) (m_lev (wd s) (ht s) + 1) (0, Y.2.2.2.2.2.1, Y.2.2.2.2.2.2.1, Y.2.2.2.2.2.2.2.2.2) := ⟨_, rfl⟩
    obtain ⟨R1, eR1⟩ : ∃ z, z = r_T false true jf jz jps N L (144 * gSl Rz s + q * (wd s * ht s)) (wd s) (ht s) (tB Rz bd s q) e (y + 1) Z.2.1 Z.2.2.1 Z.2.2.2.2.2.2.2 := ⟨_, rfl⟩
    rw [← eT1] at eY
    rw [← eR1] at eZ
    have q0 : r_qq (aB sta wd ht s q) (wd s) (ht s) e 0 = aB sta wd ht s q + e := by unfold r_qq; rw [r_node_0 hsh.2.2.1.1]
    have q1 : ∀ t, r_qq t (wd s) (ht s) e 0 = t + e := fun t => by unfold r_qq; rw [r_node_0 hsh.2.2.1.1]
    have hr1 := rq_rows hf (vs := V1) (vl := r_vl true false jz jps L (144 * gSl Rz s + q * (wd s * ht s)) (wd s) (ht s) e) (q := r_qq (aB sta wd ht s q) (wd s) (ht s) e) (qr := r_qq (tB Rz bd s q) (wd s) (ht s) e) (en := y + 1) (m_lev (wd s) (ht s) + 1) (0, Y.2.2.2.2.2.1, Y.2.2.2.2.2.2.1, Y.2.2.2.2.2.2.2.2.2) (0, Z.2.1, Z.2.2.1, Z.2.2.2.2.2.2.2) (nd_inj h hs he) (nd_inj h hs he) hb (fun _ => ⟨rfl, fun k hk => a2 s hs q hq e he k hk⟩)
    have hr1 : Br N T1.2.2.2 R1.2.2.2 ∧ (T1.2.2.2.1 = 0 → T1.1 = R1.1 ∧ ∀ k, k < m_lev (wd s) (ht s) + 1 → T1.2.1 (r_qq (aB sta wd ht s q) (wd s) (ht s) e k) = R1.2.1 (r_qq (tB Rz bd s q) (wd s) (ht s) e k) ∧ T1.2.2.1 (r_qq (aB sta wd ht s q) (wd s) (ht s) e k) = R1.2.2.1 (r_qq (tB Rz bd s q) (wd s) (ht s) e k)) := by rw [eT1, eR1]; exact hr1
    have out1 : ∀ j, (∀ l, l < m_lev (wd s) (ht s) + 1 → ¬ j = r_qq (aB sta wd ht s q) (wd s) (ht s) e l) → T1.2.1 j = Y.2.2.2.2.2.1 j ∧ T1.2.2.1 j = Y.2.2.2.2.2.2.1 j := fun j hj => by rw [eT1]; exact rows_out (bit := bitR f N) _ _ hj
    have out2 : ∀ j, (∀ l, l < m_lev (wd s) (ht s) + 1 → ¬ j = r_qq (tB Rz bd s q) (wd s) (ht s) e l) → R1.2.1 j = Z.2.1 j ∧ R1.2.2.1 j = Z.2.2.1 j := fun j hj => by rw [eR1]; exact rrows_out (bit := bitM true jf N) _ _ hj
    by_cases c1 : T1.2.2.2.1 = 0
    · obtain ⟨-, r2⟩ := hr1.2 c1
      have hleaf := (r2 0 (by omega)).2
      rw [q0, q1] at hleaf
      have m1 : nQ sta pr bd wd ht n Rz 0 T1.2.1 T1.2.2.1 R1.2.1 R1.2.2.1 := tq_upd h hR hs hq he a2 (fun l hl => r2 l hl) out1 out2
      have m2 : nQ sta pr bd wd ht n Rz 2448 Y.2.2.2.2.2.2.2.1 Y.2.2.2.2.2.2.2.2.1 R1.2.1 R1.2.2.1 := tq_oth h hgs (Or.inr ⟨rfl, rfl⟩) hs hq he a3 out2
      by_cases c2 : T1.2.2.1 (aB sta wd ht s q + e) = false
      · rw [if_pos c2] at eY
        rw [if_neg (fun z => by rw [← hleaf, c2] at z; exact Bool.noConfusion z.1)] at eZ
        rw [eY, eZ]
        exact ⟨hr1.1, fun _ => ⟨⟨a1, m1, m2, a4⟩, Or.inl ⟨rfl, rfl, rfl, rfl, rfl⟩⟩⟩
      · have c2t : T1.2.2.1 (aB sta wd ht s q + e) = true := by
          cases e9 : T1.2.2.1 (aB sta wd ht s q + e) with
          | true => rfl
          | false => exact absurd e9 c2
        rw [if_neg c2] at eY
        rw [if_pos ⟨by rw [← hleaf]; exact c2t, by rw [← hr1.1.1]; exact c1⟩] at eZ
        obtain ⟨T2, eT2⟩ : ∃ z, z = t_rows (bitR f N) V2 31 (r_qq (aB sta wd ht s q) (wd s) (ht s) e) (m_lev (wd s) (ht s) + 1) (0, Y.2.2.2.2.2.2.2.1, Y.2.2.2.2.2.2.2.2.1, T1.2.2.2) := ⟨_, rfl⟩
        obtain ⟨R2, eR2⟩ : ∃ z, z = r_T true true jf jz jps N L (144 * gSl Rz s + q * (wd s * ht s)) (wd s) (ht s) (tB Rz bd s q + 2448) e 1000 R1.2.1 R1.2.2.1 R1.2.2.2 := ⟨_, rfl⟩
        rw [← eT2] at eY
        rw [← eR2] at eZ
        have hr2 := rz_rows hf (vs := V2) (vl := r_vl true true jz jps L (144 * gSl Rz s + q * (wd s * ht s)) (wd s) (ht s) e) (q := r_qq (aB sta wd ht s q) (wd s) (ht s) e) (qr := r_qq (tB Rz bd s q + 2448) (wd s) (ht s) e) (m_lev (wd s) (ht s) + 1) (0, Y.2.2.2.2.2.2.2.1, Y.2.2.2.2.2.2.2.2.1, T1.2.2.2) (0, R1.2.1, R1.2.2.1, R1.2.2.2) (nd_inj h hs he) (nd_inj h hs he) hr1.1 (fun _ => ⟨rfl, Nat.zero_le _, fun k hk => ⟨m2 s hs q hq e he k hk, a4 s hs q hq e he k hk⟩⟩) (fun _ => by rw [q0]; exact o5 cbf)
        have hr2 : (Br N T2.2.2.2 R2.2.2.2 ∧ (T2.2.2.2.1 = 0 → T2.1 = R2.1 ∧ (∀ k, k < m_lev (wd s) (ht s) + 1 → (T2.2.1 (r_qq (aB sta wd ht s q) (wd s) (ht s) e k) = R2.2.1 (r_qq (tB Rz bd s q + 2448) (wd s) (ht s) e k) ∧ T2.2.2.1 (r_qq (aB sta wd ht s q) (wd s) (ht s) e k) = R2.2.2.1 (r_qq (tB Rz bd s q + 2448) (wd s) (ht s) e k)) ∧ T2.2.1 (r_qq (aB sta wd ht s q) (wd s) (ht s) e k) ≤ 30) ∧ (0 < m_lev (wd s) (ht s) + 1 → T2.2.2.1 (r_qq (aB sta wd ht s q) (wd s) (ht s) e 0) = true))) ∨ (T2.2.2.2.1 = 0 ∧ R2.2.2.2.1 = 3 ∧ (0 < m_lev (wd s) (ht s) + 1 → T2.2.2.1 (r_qq (aB sta wd ht s q) (wd s) (ht s) e 0) = false)) := by rw [eT2, eR2]; exact hr2
        have out3 : ∀ j, (∀ l, l < m_lev (wd s) (ht s) + 1 → ¬ j = r_qq (aB sta wd ht s q) (wd s) (ht s) e l) → T2.2.1 j = Y.2.2.2.2.2.2.2.1 j ∧ T2.2.2.1 j = Y.2.2.2.2.2.2.2.2.1 j := fun j hj => by rw [eT2]; exact rows_out (bit := bitR f N) _ _ hj
        have out4 : ∀ j, (∀ l, l < m_lev (wd s) (ht s) + 1 → ¬ j = r_qq (tB Rz bd s q + 2448) (wd s) (ht s) e l) → R2.2.1 j = R1.2.1 j ∧ R2.2.2.1 j = R1.2.2.1 j := fun j hj => by rw [eR2]; exact rrows_out (bit := bitM true jf N) _ _ hj
        obtain ⟨Y3, eY3⟩ : ∃ z : hS rT, z = (Y.1, Y.2.1, va_up Y.2.2.1 (cB sta wd ht s q e) T2.1, Y.2.2.2.1, va_up Y.2.2.2.2.1 (cB sta wd ht s q e) true, T1.2.1, T1.2.2.1, T2.2.1, T2.2.2.1, t_z T2 (aB sta wd ht s q + e)) := ⟨_, rfl⟩
        obtain ⟨Z3, eZ3⟩ : ∃ z : kS, z = r_b2 true (mB Rz wd ht s q e) y R2 Z := ⟨_, rfl⟩
        rw [← eY3] at eY
        rw [← eZ3] at eZ
        have eZ4 : Z3 = (Z.1, R2.2.1, R2.2.2.1, va_up Z.2.2.2.1 (mB Rz wd ht s q e) R2.1, va_up Z.2.2.2.2.1 (mB Rz wd ht s q e) (some y), Z.2.2.2.2.2.1, Z.2.2.2.2.2.2.1, R2.2.2.2) := by rw [eZ3]; unfold r_b2; rw [if_pos rfl, if_pos rfl]
        have done : Br N Y3.2.2.2.2.2.2.2.2.2 Z3.2.2.2.2.2.2.2 → (Y3.2.2.2.2.2.2.2.2.2.1 = 0 → QR sta pr bd wd ht n Rz L Y3 Z3) → Br N Y2.2.2.2.2.2.2.2.2.2 Z2.2.2.2.2.2.2.2 ∧ (Y2.2.2.2.2.2.2.2.2.2.1 = 0 → QR sta pr bd wd ht n Rz L Y2 Z2 ∧ mvQ L (cB sta wd ht s q e) (mB Rz wd ht s q e) y Y Y2 Z Z2) := fun h1 h2 => by
          have hr := b2_rd (jps := jps) (jln := jln) hf (Y := Y3) (Z := Z3) h hR hL hs hq he hy h1 h2
          rw [← eY, ← eZ] at hr
          refine ⟨hr.1, fun z => ?_⟩
          obtain ⟨-, g1, k, l, g2, g3, g4, g5, g6, g7⟩ := hr.2 z
          refine ⟨g1, Or.inr ⟨k, l, R2.1, g2, ?_, ?_, ?_, Or.inl ⟨hnone, ?_, ?_⟩⟩⟩
          · rw [g3, eY3]
          · rw [g4, eZ4]
          · rw [g5, eZ4]
          · rw [g6, eZ4]
          · rw [g7, eZ4]
        rcases hr2 with ⟨b1, b2⟩ | ⟨b1, b2, b3⟩
        · by_cases c3 : T2.2.2.2.1 = 0
          · obtain ⟨d1, d2, d3⟩ := b2 c3
            have d3 := d3 (by omega)
            rw [q0] at d3
            have ez : t_z T2 (aB sta wd ht s q + e) = T2.2.2.2 := by unfold t_z; rw [if_pos d3]
            refine done (by rw [eY3, eZ4]; show Br N (t_z T2 (aB sta wd ht s q + e)) R2.2.2.2; rw [ez]; exact b1) (fun _ => ?_)
            rw [eY3, eZ4]
            have m3 : nQ sta pr bd wd ht n Rz 0 T1.2.1 T1.2.2.1 R2.2.1 R2.2.2.1 := tq_oth h hgs (Or.inl ⟨rfl, rfl⟩) hs hq he m1 out4
            have m4 : nQ sta pr bd wd ht n Rz 2448 T2.2.1 T2.2.2.1 R2.2.1 R2.2.2.1 := tq_upd h hR hs hq he m2 (fun l hl => (d2 l hl).1) out3 out4
            refine ⟨fun t ht1 p hp x9 hx9 => ?_, m3, m4, zB_upd (s := s) (q := q) (e := e) a4 (fun l hl => (d2 l hl).2) (fun j hj => (out3 j hj).1)⟩
            obtain ⟨p1, p2, p3, p4, p5⟩ := a1 t ht1 p hp x9 hx9
            refine ⟨p1, ?_, p3, ?_, ?_⟩
            · show va_up Y.2.2.1 (cB sta wd ht s q e) T2.1 _ = va_up Z.2.2.2.1 (mB Rz wd ht s q e) R2.1 _
              rw [d1]
              exact up_rel h hR hs hq he ht1 hp hx9 p2
            · show va_up Y.2.2.2.2.1 (cB sta wd ht s q e) true (cB sta wd ht t p x9) = (va_up Z.2.2.2.2.1 (mB Rz wd ht s q e) (some y) (mB Rz wd ht t p x9)).isSome
              have := up_rel (A := Y.2.2.2.2.1) (J := fun b => (Z.2.2.2.2.1 b).isSome) (v := true) h hR hs hq he ht1 hp hx9 p4
              rw [this]
              by_cases c9 : mB Rz wd ht t p x9 = mB Rz wd ht s q e
              · rw [c9, va_up_self, va_up_self]; rfl
              · rw [va_up_ne _ _ c9, va_up_ne _ _ c9]
            · intro hbn
              have hbn : va_up Y.2.2.2.2.1 (cB sta wd ht s q e) true (cB sta wd ht t p x9) = false := hbn
              by_cases c9 : cB sta wd ht t p x9 = cB sta wd ht s q e
              · rw [c9, va_up_self] at hbn; exact Bool.noConfusion hbn
              · rw [va_up_ne _ _ c9] at hbn
                show T2.2.2.1 (aB sta wd ht t p + x9) = false
                rw [(out3 _ (leaf_ne h hs hq he ht1 hp hx9 c9)).2]
                exact p5 hbn
          · have ez : (t_z T2 (aB sta wd ht s q + e)).1 = T2.2.2.2.1 := tz_flt c3
            have e8 : Y3.2.2.2.2.2.2.2.2.2.1 = T2.2.2.2.1 := by rw [eY3]; exact ez
            have c8 : ¬ Y3.2.2.2.2.2.2.2.2.2.1 = 0 := by rw [e8]; exact c3
            exact done ⟨by rw [e8, eZ4]; exact b1.1, fun z => absurd z c8⟩ (fun z => absurd z c8)
        · have d3 := b3 (by omega)
          rw [q0] at d3
          have ez : (t_z T2 (aB sta wd ht s q + e)).1 = 3 := by
            unfold t_z
            rw [if_neg (by rw [d3]; decide)]
            show m_fail T2.2.2.2.1 3 = 3
            unfold m_fail
            rw [if_pos b1]
          have e8 : Y3.2.2.2.2.2.2.2.2.2.1 = 3 := by rw [eY3]; exact ez
          have c8 : ¬ Y3.2.2.2.2.2.2.2.2.2.1 = 0 := by rw [e8]; omega
          exact done ⟨by rw [e8, eZ4]; exact b2.symm, fun z => absurd z c8⟩ (fun z => absurd z c8)
    · have c1m : ¬ R1.2.2.2.1 = 0 := by rw [← hr1.1.1]; exact c1
      rw [if_neg (fun z => c1m z.2)] at eZ
      have e5 : Z2.2.2.2.2.2.2.2.1 = T1.2.2.2.1 := by rw [eZ]; exact hr1.1.1.symm
      have e6 : Y2.2.2.2.2.2.2.2.2.2.1 = T1.2.2.2.1 := by
        rw [eY]
        by_cases c2 : T1.2.2.1 (aB sta wd ht s q + e) = false
        · rw [if_pos c2]
        · rw [if_neg c2]
          have e7 := rows_flt (f := f) (n := N) (vs := V2) (q := r_qq (aB sta wd ht s q) (wd s) (ht s) e) (en := 31) (m_lev (wd s) (ht s) + 1) (0, Y.2.2.2.2.2.2.2.1, Y.2.2.2.2.2.2.2.2.1, T1.2.2.2) c1
          have e8 : ¬ (t_rows (bitR f N) V2 31 (r_qq (aB sta wd ht s q) (wd s) (ht s) e) (m_lev (wd s) (ht s) + 1) (0, Y.2.2.2.2.2.2.2.1, Y.2.2.2.2.2.2.2.2.1, T1.2.2.2)).2.2.2.1 = 0 := by rw [e7]; exact c1
          have e9 := tz_flt (le := aB sta wd ht s q + e) e8
          rw [e7] at e9
          have e9 : (t_z (t_rows (bitR f N) V2 31 (r_qq (aB sta wd ht s q) (wd s) (ht s) e) (m_lev (wd s) (ht s) + 1) (0, Y.2.2.2.2.2.2.2.1, Y.2.2.2.2.2.2.2.2.1, T1.2.2.2)) (aB sta wd ht s q + e)).1 = T1.2.2.2.1 := e9
          exact (b2_flt (by show ¬ (t_z _ _).1 = 0; rw [e9]; exact c1)).trans e9
      have c6 : ¬ Y2.2.2.2.2.2.2.2.2.2.1 = 0 := by rw [e6]; exact c1
      exact ⟨⟨e6.trans e5.symm, fun z => absurd z c6⟩, fun z => absurd z c6⟩
end RE9

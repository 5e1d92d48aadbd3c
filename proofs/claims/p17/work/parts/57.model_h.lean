/-! what a node's value is: the least below it -/
theorem gath_le {g : Nat → Option Nat} {vs : Nat → Nat} {T : Nat} : ∀ (n j : Nat), T ≤ m_gath g vs n j ↔ (T ≤ vs j ∧ ∀ i, i < n → g i = some j → T ≤ m_gath g vs i i)
  | 0, j => ⟨fun h => ⟨h, fun i hi => absurd hi (Nat.not_lt_zero _)⟩, fun h => h.1⟩
  | n + 1, j => by
    have ih := gath_le (g := g) (vs := vs) (T := T) n j
    cases hg : g n with
    | none =>
      have e : m_gath g vs (n + 1) = m_gath g vs n := by rw [m_gath, hg]
      rw [e, ih]
      refine ⟨fun h => ⟨h.1, fun i hi q => ?_⟩, fun h => ⟨h.1, fun i hi q => h.2 i (by omega) q⟩⟩
      by_cases z : i = n
      · subst z; rw [hg] at q; cases q
      · exact h.2 i (by omega) q
    | some p =>
      rw [m_gath_s hg]
      by_cases z : j = p
      · subst z
        rw [va_up_self, Nat.le_min, ih]
        refine ⟨fun h => ⟨h.1.1, fun i hi q => ?_⟩, fun h => ⟨⟨h.1, fun i hi q => h.2 i (by omega) q⟩, h.2 n (by omega) hg⟩⟩
        by_cases z : i = n
        · subst z; exact h.2
        · exact h.1.2 i (by omega) q
      · rw [va_up_ne _ _ z, ih]
        refine ⟨fun h => ⟨h.1, fun i hi q => ?_⟩, fun h => ⟨h.1, fun i hi q => h.2 i (by omega) q⟩⟩
        by_cases z2 : i = n
        · subst z2; rw [hg] at q; cases q; exact absurd rfl z
        · exact h.2 i (by omega) q
theorem lst_le {own : Nat → Nat} {w lv x y T : Nat} : ∀ n, T ≤ m_lst own w lv x y n ↔ (T ≤ 1000 ∧ ∀ k, k < n → (k % w / 2 ^ lv = x ∧ k / w / 2 ^ lv = y) → T ≤ own k)
  | 0 => ⟨fun h => ⟨h, fun k hk => absurd hk (Nat.not_lt_zero _)⟩, fun h => h.1⟩
  | n + 1 => by
    have ih := lst_le (own := own) (w := w) (lv := lv) (x := x) (y := y) (T := T) n
    rw [m_lst]
    by_cases c1 : n % w / 2 ^ lv = x ∧ n / w / 2 ^ lv = y
    · by_cases c2 : own n < m_lst own w lv x y n
      · rw [if_pos ⟨c1, c2⟩]
        refine ⟨fun h => ?_, fun h => h.2 n (by omega) c1⟩
        have h2 := ih.mp (by omega)
        refine ⟨h2.1, fun k hk q => ?_⟩
        by_cases z : k = n
        · subst z; exact h
        · exact h2.2 k (by omega) q
      · rw [if_neg (fun q => c2 q.2), ih]
        refine ⟨fun h => ⟨h.1, fun k hk q => ?_⟩, fun h => ⟨h.1, fun k hk q => h.2 k (by omega) q⟩⟩
        by_cases z : k = n
        · subst z
          have := ih.mpr h
          omega
        · exact h.2 k (by omega) q
    · rw [if_neg (fun q => c1 q.1), ih]
      refine ⟨fun h => ⟨h.1, fun k hk q => ?_⟩, fun h => ⟨h.1, fun k hk q => h.2 k (by omega) q⟩⟩
      by_cases z : k = n
      · subst z; exact absurd q c1
      · exact h.2 k (by omega) q
theorem allB {n : Nat} {p : Nat → Bool} (h : (List.range n).all p = true) : ∀ i, i < n → p i = true := fun i hi => (List.all_eq_true.mp h) i (List.mem_range.mpr hi)
def k_c0 (w h : Nat) : Bool := (List.range (2 * (w * h))).all fun i => (List.range (w * h)).all fun e => !(decide (m_tr w h i = some e))
theorem k_c0_t : ∀ w, w < 5 → ∀ h, h < 4 → k_c0 w h = true := by decide +kernel
theorem tr_c0 (w : Nat) (hw : w < 5) (h : Nat) (hh : h < 4) (i : Nat) (hi : i < 2 * (w * h)) (e : Nat) (he : e < w * h) : ¬ m_tr w h i = some e := by
  intro z
  have q := allB (allB (k_c0_t w hw h hh) i hi) e he
  rw [decide_eq_true z] at q
  exact Bool.noConfusion q
def k_c1 (w h : Nat) : Bool := (List.range (2 * (w * h))).all fun i => (List.range (w * h)).all fun e => !(decide (1 ≤ m_lev w h) && decide (m_tr w h i = some (r_node w h e 1))) || (decide (i < w * h) && decide (r_node w h i 1 = r_node w h e 1))
theorem k_c1_t : ∀ w, w < 5 → ∀ h, h < 4 → k_c1 w h = true := by decide +kernel
theorem tr_c1 (w : Nat) (hw : w < 5) (h : Nat) (hh : h < 4) (i : Nat) (hi : i < 2 * (w * h)) (e : Nat) (he : e < w * h) (h1 : 1 ≤ m_lev w h) (h2 : m_tr w h i = some (r_node w h e 1)) : i < w * h ∧ r_node w h i 1 = r_node w h e 1 := by
  have q := allB (allB (k_c1_t w hw h hh) i hi) e he
  rw [decide_eq_true h1, decide_eq_true h2] at q
  have q2 : (decide (i < w * h) && decide (r_node w h i 1 = r_node w h e 1)) = true := q
  rw [Bool.and_eq_true] at q2
  exact ⟨of_decide_eq_true q2.1, of_decide_eq_true q2.2⟩
def k_c2 (w h : Nat) : Bool := (List.range (2 * (w * h))).all fun i => (List.range (w * h)).all fun e => !(decide (2 ≤ m_lev w h) && decide (m_tr w h i = some (r_node w h e 2))) || (List.range (w * h)).any fun k => decide (i = r_node w h k 1) && decide (r_node w h k 2 = r_node w h e 2)
theorem k_c2_t : ∀ w, w < 5 → ∀ h, h < 4 → k_c2 w h = true := by decide +kernel
theorem tr_c2 (w : Nat) (hw : w < 5) (h : Nat) (hh : h < 4) (i : Nat) (hi : i < 2 * (w * h)) (e : Nat) (he : e < w * h) (h1 : 2 ≤ m_lev w h) (h2 : m_tr w h i = some (r_node w h e 2)) : ∃ k, k < w * h ∧ i = r_node w h k 1 ∧ r_node w h k 2 = r_node w h e 2 := by
  have q := allB (allB (k_c2_t w hw h hh) i hi) e he
  rw [decide_eq_true h1, decide_eq_true h2] at q
  have q2 : ((List.range (w * h)).any fun k => decide (i = r_node w h k 1) && decide (r_node w h k 2 = r_node w h e 2)) = true := q
  obtain ⟨k, hk, hk2⟩ := List.any_eq_true.mp q2
  rw [Bool.and_eq_true] at hk2
  exact ⟨k, List.mem_range.mp hk, of_decide_eq_true hk2.1, of_decide_eq_true hk2.2⟩
def k_eq (w h : Nat) : Bool := (List.range (w * h)).all fun e => (List.range (w * h)).all fun k => (List.range (m_lev w h + 1)).all fun l => decide ((decide (k % w / 2 ^ l = e % w / 2 ^ l) && decide (k / w / 2 ^ l = e / w / 2 ^ l)) = decide (r_node w h k l = r_node w h e l))
theorem k_eq_t : ∀ w, w < 5 → ∀ h, h < 4 → k_eq w h = true := by decide +kernel
theorem nd_eq (w : Nat) (hw : w < 5) (h : Nat) (hh : h < 4) (e : Nat) (he : e < w * h) (k : Nat) (hk : k < w * h) (l : Nat) (hl : l < m_lev w h + 1) : (k % w / 2 ^ l = e % w / 2 ^ l ∧ k / w / 2 ^ l = e / w / 2 ^ l) ↔ r_node w h k l = r_node w h e l := by
  have q := of_decide_eq_true (allB (allB (allB (k_eq_t w hw h hh) e he) k hk) l hl)
  constructor
  · intro z
    rw [decide_eq_true z.1, decide_eq_true z.2] at q
    exact of_decide_eq_true q.symm
  · intro z
    rw [decide_eq_true z, Bool.and_eq_true] at q
    exact ⟨of_decide_eq_true q.1, of_decide_eq_true q.2⟩
def k_1 (w h : Nat) : Bool := (List.range (w * h)).all fun e => (List.range (m_lev w h)).all fun l => decide (w * h ≤ r_node w h e (l + 1)) && decide (r_node w h e l < r_node w h e (l + 1))
theorem k_1_t : ∀ w, w < 5 → ∀ h, h < 4 → k_1 w h = true := by decide +kernel
theorem nd_1 (w : Nat) (hw : w < 5) (h : Nat) (hh : h < 4) (e : Nat) (he : e < w * h) (l : Nat) (hl : l < m_lev w h) : w * h ≤ r_node w h e (l + 1) ∧ r_node w h e l < r_node w h e (l + 1) := by
  have q := allB (allB (k_1_t w hw h hh) e he) l hl
  rw [Bool.and_eq_true] at q
  exact ⟨of_decide_eq_true q.1, of_decide_eq_true q.2⟩
theorem nd_10 (w : Nat) (hw : w < 5) (h : Nat) (hh : h < 4) (e : Nat) (he : e < w * h) (hl : 0 < m_lev w h) : w * h ≤ r_node w h e 1 ∧ r_node w h e 0 < r_node w h e 1 := nd_1 w hw h hh e he 0 hl
theorem nd_21 (w : Nat) (hw : w < 5) (h : Nat) (hh : h < 4) (e : Nat) (he : e < w * h) (hl : 1 < m_lev w h) : w * h ≤ r_node w h e 2 ∧ r_node w h e 1 < r_node w h e 2 := nd_1 w hw h hh e he 1 hl
def k_12 (w h : Nat) : Bool := (List.range (w * h)).all fun e => (List.range (w * h)).all fun k => !(decide (2 ≤ m_lev w h) && decide (r_node w h k 1 = r_node w h e 1)) || decide (r_node w h k 2 = r_node w h e 2)
theorem k_12_t : ∀ w, w < 5 → ∀ h, h < 4 → k_12 w h = true := by decide +kernel
theorem nd_12 (w : Nat) (hw : w < 5) (h : Nat) (hh : h < 4) (e : Nat) (he : e < w * h) (k : Nat) (hk : k < w * h) (h1 : 2 ≤ m_lev w h) (h2 : r_node w h k 1 = r_node w h e 1) : r_node w h k 2 = r_node w h e 2 := by
  have q := allB (allB (k_12_t w hw h hh) e he) k hk
  rw [decide_eq_true h1, decide_eq_true h2] at q
  exact of_decide_eq_true q
def k_in (w h : Nat) : Bool := (List.range (2 * (w * h))).all fun i => (m_tr w h i).all fun p => decide (p < 2 * (w * h))
theorem k_in_t : ∀ w, w < 5 → ∀ h, h < 4 → k_in w h = true := by decide +kernel
theorem tr_in (w : Nat) (hw : w < 5) (h : Nat) (hh : h < 4) (i : Nat) (hi : i < 2 * (w * h)) (p : Nat) (hp : m_tr w h i = some p) : p < 2 * (w * h) := by
  have q := allB (k_in_t w hw h hh) i hi
  rw [hp] at q
  exact of_decide_eq_true q
section VL
variable {g : Nat → Option Nat} {vs u : Nat → Nat} {a w h N : Nat}
/-- a node of a band: the values below it bound it -/
theorem val_le (hw : 1 ≤ w ∧ w ≤ 4) (hh : 1 ≤ h ∧ h ≤ 3) (t : tPl g a w h) (hin : ∀ i, i < N → ∀ p, g i = some p → a ≤ p → p < a + 2 * (w * h) → a ≤ i ∧ i < a + 2 * (w * h)) (hN : a + 2 * (w * h) ≤ N) (hu : ∀ e, e < w * h → vs (a + e) = u e) (hv : ∀ i, w * h ≤ i → i < 2 * (w * h) → vs (a + i) = 1000) (hb : ∀ e, e < w * h → u e ≤ 1000) {T : Nat} : ∀ l, l < m_lev w h + 1 → ∀ e, e < w * h → ∀ n, a + r_node w h e l ≤ n → n ≤ N → (T ≤ m_gath g vs n (a + r_node w h e l) ↔ ∀ k, k < w * h → r_node w h k l = r_node w h e l → T ≤ u k) := by
  have lev := m_lev_le w h
  have hch : ∀ n, n ≤ N → ∀ i, i < n → ∀ x, x < 2 * (w * h) → g i = some (a + x) → ∃ y, y < 2 * (w * h) ∧ i = a + y ∧ m_tr w h y = some x := by
    intro n hn i hi x hx hg
    obtain ⟨q1, q2⟩ := hin i (by omega) _ hg (by omega) (by omega)
    refine ⟨i - a, by omega, by omega, ?_⟩
    have h1 := t (i - a) (by omega)
    rw [show a + (i - a) = i by omega, hg] at h1
    cases hm : m_tr w h (i - a) with
    | none => rw [hm] at h1; cases h1
    | some z =>
      rw [hm] at h1
      have h2 : a + x = a + z := Option.some.inj h1
      rw [show z = x by omega]
  have l0 : ∀ e, e < w * h → ∀ n, n ≤ N → (T ≤ m_gath g vs n (a + e) ↔ T ≤ u e) := by
    intro e he n hn
    rw [gath_le, hu e he]
    refine ⟨fun q => q.1, fun q => ⟨q, fun i hi z => ?_⟩⟩
    obtain ⟨y, q1, q2, q3⟩ := hch n hn i hi e (by omega) z
    exact absurd q3 (tr_c0 w (by omega) h (by omega) y q1 e he)
  have n0 : ∀ e, r_node w h e 0 = e := fun e => r_node_0 hw.1
  have l1 : 1 ≤ m_lev w h → ∀ e, e < w * h → ∀ n, a + w * h ≤ n → n ≤ N → (T ≤ m_gath g vs n (a + r_node w h e 1) ↔ ∀ k, k < w * h → r_node w h k 1 = r_node w h e 1 → T ≤ u k) := by
    intro hl e he n h1 hn
    have hx := nd_10 w (by omega) h (by omega) e he (by omega)
    have hx2 := r_node_2 w (by omega) h (by omega) e he 1 (by omega)
    rw [gath_le, hv _ hx.1 hx2]
    constructor
    · intro q k hk z
      have hup := m_tr_up w (by omega) h (by omega) k hk 0 (by omega)
      rw [n0] at hup
      have hgk : g (a + k) = some (a + r_node w h e 1) := by
        rw [t k (by omega), hup, z]
        rfl
      exact (l0 k hk (a + k) (by omega)).mp (q.2 (a + k) (by omega) hgk)
    · intro q
      refine ⟨Nat.le_trans (q e he rfl) (hb e he), fun i hi z => ?_⟩
      obtain ⟨y, q1, q2, q3⟩ := hch n hn i hi _ hx2 z
      obtain ⟨q4, q5⟩ := tr_c1 w (by omega) h (by omega) y q1 e he hl q3
      rw [q2]
      exact (l0 y q4 (a + y) (by omega)).mpr (q y q4 q5)
  intro l hl e he n h1 hn
  rcases (show l = 0 ∨ l = 1 ∨ l = 2 by omega) with z | z | z
  · subst z
    rw [n0, l0 e he n hn]
    refine ⟨fun q k hk z => ?_, fun q => q e he (n0 e)⟩
    rw [n0] at z
    rw [z]; exact q
  · subst z
    have hx := nd_10 w (by omega) h (by omega) e he (by omega)
    exact l1 (by omega) e he n (by omega) hn
  · subst z
    have hl2 : 2 ≤ m_lev w h := by omega
    have hx := nd_21 w (by omega) h (by omega) e he (by omega)
    have hx2 := r_node_2 w (by omega) h (by omega) e he 2 (by omega)
    rw [gath_le, hv _ hx.1 hx2]
    constructor
    · intro q k hk z
      have hup := m_tr_up w (by omega) h (by omega) k hk 1 (by omega)
      have hy := r_node_2 w (by omega) h (by omega) k hk 1 (by omega)
      have hy1 := nd_10 w (by omega) h (by omega) k hk (by omega)
      have hy2 := nd_21 w (by omega) h (by omega) k hk (by omega)
      have hgk : g (a + r_node w h k 1) = some (a + r_node w h e 2) := by
        rw [t _ hy, hup, z]
        rfl
      exact (l1 (by omega) k hk (a + r_node w h k 1) (by omega) (by omega)).mp (q.2 _ (by rw [z] at hy2; omega) hgk) k hk rfl
    · intro q
      refine ⟨Nat.le_trans (q e he rfl) (hb e he), fun i hi z => ?_⟩
      obtain ⟨y, q1, q2, q3⟩ := hch n hn i hi _ hx2 z
      obtain ⟨k, q4, q5, q6⟩ := tr_c2 w (by omega) h (by omega) y q1 e he hl2 q3
      rw [q2, q5]
      have hy1 := nd_10 w (by omega) h (by omega) k q4 (by omega)
      have hy := r_node_2 w (by omega) h (by omega) k q4 1 (by omega)
      refine (l1 (by omega) k q4 (a + r_node w h k 1) (by omega) (by omega)).mpr (fun k2 hk2 z2 => ?_)
      exact q k2 hk2 ((nd_12 w (by omega) h (by omega) k q4 k2 hk2 hl2 z2).trans q6)
theorem val_eq (hw : 1 ≤ w ∧ w ≤ 4) (hh : 1 ≤ h ∧ h ≤ 3) (t : tPl g a w h) (hin : ∀ i, i < N → ∀ p, g i = some p → a ≤ p → p < a + 2 * (w * h) → a ≤ i ∧ i < a + 2 * (w * h)) (hN : a + 2 * (w * h) ≤ N) (hu : ∀ e, e < w * h → vs (a + e) = u e) (hv : ∀ i, w * h ≤ i → i < 2 * (w * h) → vs (a + i) = 1000) (hb : ∀ e, e < w * h → u e ≤ 1000) {l e : Nat} (hl : l < m_lev w h + 1) (he : e < w * h) : m_gath g vs N (a + r_node w h e l) = m_lst u w l (e % w / 2 ^ l) (e / w / 2 ^ l) (w * h) := by
  have hy := r_node_2 w (by omega) h (by omega) e he l hl
  have key : ∀ T, T ≤ m_gath g vs N (a + r_node w h e l) ↔ T ≤ m_lst u w l (e % w / 2 ^ l) (e / w / 2 ^ l) (w * h) := by
    intro T
    rw [val_le hw hh t hin hN hu hv hb l hl e he N (by omega) (Nat.le_refl _), lst_le]
    constructor
    · intro q
      refine ⟨Nat.le_trans (q e he rfl) (hb e he), fun k hk z => q k hk ((nd_eq w (by omega) h (by omega) e he k hk l hl).mp z)⟩
    · intro q k hk z
      exact q.2 k hk ((nd_eq w (by omega) h (by omega) e he k hk l hl).mpr z)
  exact Nat.le_antisymm ((key _).mp (Nat.le_refl _)) ((key _).mpr (Nat.le_refl _))
theorem val_mono (hw : 1 ≤ w ∧ w ≤ 4) (hh : 1 ≤ h ∧ h ≤ 3) {e l : Nat} (hl : l + 1 < m_lev w h + 1) (he : e < w * h) (hb : ∀ e, e < w * h → u e ≤ 1000) : m_lst u w (l + 1) (e % w / 2 ^ (l + 1)) (e / w / 2 ^ (l + 1)) (w * h) ≤ m_lst u w l (e % w / 2 ^ l) (e / w / 2 ^ l) (w * h) := by
  refine (lst_le _).mpr ?_
  have q := (lst_le (own := u) (w := w) (lv := l + 1) (x := e % w / 2 ^ (l + 1)) (y := e / w / 2 ^ (l + 1)) (w * h)).mp (Nat.le_refl _)
  refine ⟨q.1, fun k hk z => q.2 k hk ?_⟩
  rw [Nat.pow_succ, ← Nat.div_div_eq_div_mul, ← Nat.div_div_eq_div_mul, ← Nat.div_div_eq_div_mul, ← Nat.div_div_eq_div_mul, z.1, z.2]
  exact ⟨rfl, rfl⟩
end VL

/-! a method that throws a new exception of class X and changes nothing; its caller that catches it -/
theorem same_old {s U : State} {k n : Nat} (h : s.sameButNew ({ U with vm := s.vm } : State) [] k n) : s.heap.size ≤ U.heap.size ∧ ∀ q : Nat, q < s.heap.size → U.heap[q]? = s.heap[q]? := by
  obtain ⟨-, h1, -, -, -, h2⟩ := h
  refine ⟨h1, fun q hq => ?_⟩
  obtain ⟨c9, e1, e2, e3, e4⟩ := h2 q _ (Array.getElem?_eq_getElem hq)
  have e5 : c9.slots = (s.heap[q]).slots := Array.ext_getElem? (fun i => e4 i (by simp))
  have e6 : U.heap[q]? = some c9 := e1
  rw [e5] at e2
  rw [e6, Array.getElem?_eq_getElem hq]
  exact congrArg some e2
/-- what a throw leaves: a new exception, nothing else is changed -/
def qtE (X : String) (s : State) (a : Nat) (t : State) : Prop := s.heap.size ≤ t.heap.size ∧ (∀ q : Nat, q < s.heap.size → t.heap[q]? = s.heap[q]?) ∧ ∃ ce : Cell, t.heap[a]? = some ce ∧ s.vm.findClass X = some ce.cls ∧ ce.vm = .none ∧ s.vm.assignable ce.cls ce.cls = true
/-- nothing has moved but the frames, and at the most one new cell of six slots -/
def qfE (s t : State) : Prop := s.WarmedH t.vm ∧ s.sameButNew ({ t with vm := s.vm } : State) [] 1 6
def MetT (l : Launch) (y : MethodName) (ws : List Cond) (rm : Room) (Pc : Array Value → State → Prop) (X : String) : Prop :=
  MetFree l y (headSpec ws rm) Pc (fun _ _ _ _ _ => True) (fun _ st o t => ∃ a : Nat, o = .threw a ∧ qtE X st a t ∧ qfE st t)
def QT (below : List Frame) (X : String) (s : State) : State → Prop := fun t => ∃ a : Nat, t.status = .running ∧ Ended t below (.threw a) ∧ qtE X s a t ∧ qfE s t
theorem MetT.ofW {l : Launch} {y : MethodName} {ws ws' : List Cond} {rm : Room} {Pc : Array Value → State → Prop} {X : String} {cc : ByteArray} {maxL : Nat} {ret : Option FieldType}
    (hy : plainName y.cls = true) (hw : ws = Cond.code y cc maxL ret :: ws')
    (body : ∀ p e s m args below meth c s₁, BodyLoose p l y (headSpec ws rm) cc maxL ret e s m args below meth c s₁ → c.maxLocals = maxL → Pc args s →
      W p l e (headSpec ws rm).room s m args below meth c s.heap [] 0 0 (QT below X s) (entryFrame m args maxL)) : MetT l y ws rm Pc X := by
  refine MetFree.of_bodyS (code := cc) (maxLocals := maxL) (ret := ret) hy ?_ ?_
  · intro args s m h hn
    obtain ⟨meth, c, h1, h2, h3, h4, h5, h6, -, -⟩ := Cond.code_spec hn (atoms_spec (ws := ws) h _ (by rw [hw]; exact List.mem_cons_self))
    exact ⟨meth, c, h1, h2, h3, h4, h5, h6⟩
  · intro p e s m args below meth c s₁ B hml hP _
    have hh0 : s₁.heap = s.heap := by rw [B.state]; rfl
    obtain ⟨t, a1, a, b1, b2, b3, b4⟩ := body p e s m args below meth c s₁ B hml hP s₁ hh0 (Stand.of_body B)
    exact ⟨t, .threw a, a1, b1, b2, a, rfl, b3, b4⟩
theorem oC {args : Array Value} {s : State} {w : Cond} {B : List Cond} (h : w.before args s = true) (t : ∀ w ∈ B, w.before args s = true) : ∀ w' ∈ w :: B, w'.before args s = true := fun w' h' => (List.mem_cons.mp h').elim (fun e => by rw [e]; exact h) (t w')
theorem oNil {args : Array Value} {s : State} : ∀ w ∈ ([] : List Cond), w.before args s = true := fun _ h => by cases h
abbrev upX : List String := ["java/lang/RuntimeException", "java/lang/Exception"]
abbrev xIO : String := "java/lang/IndexOutOfBoundsException"
theorem oat_IO {c0 : Cond} {args : Array Value} {s : State} {A : Nat → Prop} {ic : Nat} (hts : ∀ w ∈ c0 :: uU, w.before args s = true) (hZ : zN s) (hO : oN A s) (hm : (Cond.methodLink "PacketRows" ic ⟨"java/lang/IndexOutOfBoundsException", "<init>", "(Ljava/lang/String;)V"⟩).before args s = true) : ∀ w ∈ Bundle.ownAtoms "PacketRows" ic "java/lang/IndexOutOfBoundsException" upX, w.before args s = true :=
  oC (hU hts u_54) (oC (hU hts u_456) (oC (hU hts u_465) (oC (hU hts u_469) (oC (hU hts u_472) (oC (hU hts u_474) (oC (hU hts u_457) (oC (hU hts u_458) (oC (hU hts u_74) (oC (hU hts u_75) (oC (hU hts u_459) (oC (hU hts u_464) (oC (hU hts u_470) (oC (hU hts u_700) (oC (hU hts u_446) (oC (hU hts u_701) (oC (hU hts u_448) (oC (hU hts u_702) (oC (hU hts u_450) (oC (hU hts u_460) (oC hO.2.1.lays (oC (hU hts u_462) (oC hO.2.2.lays (oC (hU hts u_452) (oC (hU hts u_696) (oC (hU hts u_697) (oC (hU hts u_699) (oC (hU hts u_452) (oC (hU hts u_747) (oC (hU hts u_748) (oC (hU hts u_749) (oC (hU hts u_690) (oC (va_Nw.use rfl (hZ.1 _ z_5)) (oC (hU hts u_690) (oC (hU hts u_691) (oC (hU hts u_692) (oC (hU hts u_693) (oC (va_Nw.use rfl (hZ.1 _ z_6)) (oC (hU hts u_693) (oC (hU hts u_694) (oC (hU hts u_695) (oC (hU hts u_696) (oC (va_Nw.use rfl (hZ.1 _ z_7)) (oC hm (oC (hU hts u_953) (oC (va_Nw.use rfl (hZ.1 _ z_13)) (oC (hU hts u_955) (oC (hU hts u_468) (oC (hU hts u_956) (oC (hU hts u_957) (oC (hU hts u_958) (oC (hU hts u_959) (oC hO.2.1.ref (oC hO.2.2.ref (oC (hU hts u_455) (oC (hU hts u_454) (oC (hU hts u_960) (oNil)))))))))))))))))))))))))))))))))))))))))))))))))))))))))
abbrev xIA : String := "java/lang/IllegalArgumentException"
theorem oat_IA {c0 : Cond} {args : Array Value} {s : State} {A : Nat → Prop} {ic : Nat} (hts : ∀ w ∈ c0 :: uU, w.before args s = true) (hZ : zN s) (hO : oN A s) (hm : (Cond.methodLink "PacketRows" ic ⟨"java/lang/IllegalArgumentException", "<init>", "(Ljava/lang/String;)V"⟩).before args s = true) : ∀ w ∈ Bundle.ownAtoms "PacketRows" ic "java/lang/IllegalArgumentException" upX, w.before args s = true :=
  oC (hU hts u_54) (oC (hU hts u_456) (oC (hU hts u_465) (oC (hU hts u_469) (oC (hU hts u_472) (oC (hU hts u_474) (oC (hU hts u_457) (oC (hU hts u_458) (oC (hU hts u_74) (oC (hU hts u_75) (oC (hU hts u_459) (oC (hU hts u_464) (oC (hU hts u_470) (oC (hU hts u_700) (oC (hU hts u_446) (oC (hU hts u_701) (oC (hU hts u_448) (oC (hU hts u_702) (oC (hU hts u_450) (oC (hU hts u_460) (oC hO.2.1.lays (oC (hU hts u_462) (oC hO.2.2.lays (oC (hU hts u_452) (oC (hU hts u_696) (oC (hU hts u_697) (oC (hU hts u_699) (oC (hU hts u_452) (oC (hU hts u_687) (oC (hU hts u_688) (oC (hU hts u_689) (oC (hU hts u_690) (oC (va_Nw.use rfl (hZ.1 _ z_5)) (oC (hU hts u_690) (oC (hU hts u_691) (oC (hU hts u_692) (oC (hU hts u_693) (oC (va_Nw.use rfl (hZ.1 _ z_6)) (oC (hU hts u_693) (oC (hU hts u_694) (oC (hU hts u_695) (oC (hU hts u_696) (oC (va_Nw.use rfl (hZ.1 _ z_7)) (oC hm (oC (hU hts u_435) (oC (va_Nw.use rfl (hZ.1 _ z_4)) (oC (hU hts u_443) (oC (hU hts u_444) (oC (hU hts u_445) (oC (hU hts u_447) (oC (hU hts u_449) (oC (hU hts u_451) (oC hO.2.1.ref (oC hO.2.2.ref (oC (hU hts u_455) (oC (hU hts u_454) (oC (hU hts u_453) (oNil)))))))))))))))))))))))))))))))))))))))))))))))))))))))))
section QTH
variable {p : Program} {l : Launch} {e : Env} {R : Room} {s : State} {m : MethodId} {args : Array Value} {below : List Frame} {meth : Method} {c : Code} {H : Heap} {locs : List Loc} {cells slots : Nat} {Q : State → Prop}
variable {cc : ByteArray} {pc : Nat} {ls : Array Slot} {rest : List Value}
theorem q_throw {ix ik ic : Nat} {own X tx : String} {names : List String} (hl0 : l.stackTraces = false) (hx : p.tables.exec = Jvm.exec) (hb : c.code = cc) (hlk : meth.locks = false) (hml : c.maxLocals = ls.size) (hto : ∀ pc, ∀ x ∈ c.exceptionTable.toList, covers x pc = false)
    (hown : s.vm.findClass own = some m.cls) (hcl : (Cond.classLink own ix X).before args s = true) (hini : (Cond.initialized X).before args s = true) (hst : ∃ a : Nat, vk_R own ik tx a s) (hat : ∀ w ∈ Bundle.ownAtoms own ic X names, w.before args s = true) (hf : Bundle.fit X = true) (hfs : ∀ n ∈ names, Bundle.fit n = true)
    (hd0 : decode cc pc = .ok (.new ix, 3)) (hd3 : decode cc (pc + 3) = .ok (.dup, 1)) (hd4 : decode cc (pc + 3 + 1) = .ok (.ldc ik, 2)) (hd6 : decode cc (pc + 3 + 1 + 2) = .ok (.invokespecial ic, 3)) (hd9 : decode cc (pc + 3 + 1 + 2 + 3) = .ok (.athrow, 1))
    (hRf : names.length + 3 < R.frames) (hRl : 13 * (names.length + 1) + 43 + (rest.map fun v => v.category).sum ≤ R.locals) (hRc : 1 ≤ R.cells) (hRs : 6 ≤ R.slots) : W p l e R s m args below meth c s.heap [] 0 0 (QT below X s) (F0 m pc ls rest) := by
  have hins : (Cond.instantiable X 6).before args s = true := hat _ (by simp [Bundle.ownAtoms])
  obtain ⟨cX, kX0, hfX, hkX0, -⟩ := Cond.instantiable_spec hins
  refine W.newcK hx hb hown hcl hins hini (g := F0 m pc ls rest) rfl hd0 (by omega) (by omega) hfX rfl (fun H1 kX hkX hH hz hold => ?_)
  obtain ⟨q, hq⟩ := hst
  refine lv_dup (pc := pc + 3) hx hb hd3 rfl ?_
  refine va_ldcS hx hb hown hq hd4 ?_
  intro T hT X0
  have htr : e.platform.stackTraces = false := by rw [X0.admits.platform]; exact hl0
  obtain ⟨U, hsteps, hrun, hend, hW, hsame, ce, hce, K⟩ := X0.ctorThrowS hx htr hown hf hfs hat (fun y hy => by cases hy) hfX hkX (a := s.heap.size) (by rw [hT]; exact hH) (Nat.le_refl _) (msg := .ref q) rfl
    (g := F0 m (pc + 3 + 1 + 2) ls (.ref q :: .ref s.heap.size :: .ref s.heap.size :: rest)) rfl hml.symm rfl rfl (rest := rest) rfl (by rw [hb]; exact hd6) (by rw [hb]; exact hd9) (hto _) hRf (by show 2 * 0 + (1 + (rest.map fun v => v.category).sum) + (13 * (names.length + 1) + 42) ≤ R.locals; omega) hlk
  obtain ⟨o1, o2⟩ := same_old hsame
  exact ⟨U, hsteps, s.heap.size, hrun, hend, ⟨o1, o2, ce, hce, K.cls, K.vm, K.self⟩, hW, hsame⟩
end QTH
/-- a contract of a method that throws -/
abbrev q_CT (l : Launch) (D : va_G) (cl : List vw_C) (tys : List (ClassId × FieldType)) (y : MethodName) (ws : List Cond) (rm : Room) (av : List Value) (w0 : va_W) (X : String) : Prop := ∀ sz : Nat, MetT l y ws rm (q_Pm D cl tys av w0 sz) X
theorem q_entT {l : Launch} {y : MethodName} {ws' : List Cond} {ws : List Cond} {rm : Room} {av : List Value} {D : va_G} {cl : List vw_C} {tys : List (ClassId × FieldType)} {w0 : va_W} {cc : ByteArray} {maxL : Nat} {ret : Option FieldType} {X : String} (own : String) (hl0 : l.stackTraces = false)
    (hy : plainName y.cls = true) (hw : ws = Cond.code y cc maxL ret :: ws') (ho : y.cls = own) (hlen : (lg_sl av).length ≤ maxL)
    (body : ∀ (p : Program) (e : Env) (s : State) (m : MethodId) (below : List Frame) (meth : Method) (c : Code) (ls : Array Slot) (Q : State → Prop) (A : Nat → Prop), p.tables.exec = Jvm.exec → c.code = cc → c.maxLocals = maxL → (∀ w ∈ ws, w.before av.toArray s = true) → s.vm.findClass own = some m.cls → va_P D cl w0 s.heap → va_D A w0 → va_K D cl tys s → zN s → oN A s → (∀ q, s.heap.size ≤ q → A q) → va_S A s.heap s.heap [] → lv_has ls maxL (lv_args 0 av) →
      (∀ (ix ik ic : Nat) (tx : String) (pc : Nat) (ls : Array Slot), c.maxLocals = ls.size → (Cond.classLink own ix X).before av.toArray s = true → (Cond.initialized X).before av.toArray s = true → (∃ a : Nat, vk_R own ik tx a s) → (∀ w ∈ Bundle.ownAtoms own ic X upX, w.before av.toArray s = true) → Bundle.fit X = true →
        decode cc pc = .ok (.new ix, 3) → decode cc (pc + 3) = .ok (.dup, 1) → decode cc (pc + 3 + 1) = .ok (.ldc ik, 2) → decode cc (pc + 3 + 1 + 2) = .ok (.invokespecial ic, 3) → decode cc (pc + 3 + 1 + 2 + 3) = .ok (.athrow, 1) → 6 ≤ (headSpec ws rm).room.frames → 90 ≤ (headSpec ws rm).room.locals → 1 ≤ (headSpec ws rm).room.cells → 6 ≤ (headSpec ws rm).room.slots →
        W p l e (headSpec ws rm).room s m av.toArray below meth c s.heap [] 0 0 Q (F0 m pc ls [])) →
      W p l e (headSpec ws rm).room s m av.toArray below meth c s.heap [] 0 0 Q (F0 m 0 ls [])) : q_CT l D cl tys y ws rm av w0 X := by
  intro sz
  refine MetT.ofW (cc := cc) (maxL := maxL) (ret := ret) hy hw ?_
  intro p e s m args below meth c s₁ B hml hv
  obtain ⟨rfl, hsz, hP, hK, hD0, hZ, hO⟩ := hv
  subst hsz
  have hts := atoms_spec (ws := ws) B.pre
  have hown : s.vm.findClass own = some m.cls := by rw [← ho]; exact findClass_of_methodNamed B.named
  have hD := hD0.self (sz := s.heap.size)
  have hto : ∀ pc, ∀ x ∈ c.exceptionTable.toList, covers x pc = false := fun pc => covers_of_empty (B.noHandlers (hts _ (by rw [hw]; exact List.mem_cons_self))) pc
  have hl := lv_entry av (n := maxL) hlen
  rw [lg_entry_eq]
  generalize (lg_sl av ++ List.replicate (maxL - (lg_sl av).length) Slot.unset).toArray = ls at hl ⊢
  exact body p e s m below meth c ls _ _ B.exec B.bytes hml hts hown hP hD hK hZ hO (fun q h => Or.inr h) va_S.rf hl (fun ix ik ic tx pc ls hs h1 h2 h3 h4 h5 d0 d3 d4 d6 d9 r1 r2 r3 r4 => q_throw hl0 B.exec B.bytes B.notSynchronized hs hto hown h1 h2 h3 h4 h5 (by decide +kernel) d0 d3 d4 d6 d9 (by show 2 + 3 < _; omega) (by show 13 * (2 + 1) + 43 + 0 ≤ _; omega) r3 r4)
section QCT
variable {p : Program} {l : Launch} {e : Env} {R : Room} {s : State} {m : MethodId} {args sargs : Array Value} {below : List Frame} {meth : Method} {c : Code} {H : Heap} {locs : List Loc} {cells slots : Nat} {Q : State → Prop}
/-- a callee that throws: the caller's frame g stands, the exception is on its way -/
theorem q_thrown {y : MethodName} {ws : List Cond} {rm : Room} {Pc : Array Value → State → Prop} {X : String} {bytes : ByteArray} {maxL : Nat} {ret : Option FieldType} {U : State} {g : JFrame} {ig : Instr} {mk : MethodId} {a : Array Value} (hM : MetT l y ws rm Pc X) (hbl : FrameBlind Pc) (hrc : rm.cells = 1) (hrs : rm.slots = 6)
    (hfr : rm.frames + 1 ≤ R.frames) (hlo : 8 + (maxL + 11) + rm.locals ≤ R.locals) (hws : ∀ w ∈ ws, ∀ a' U, s.WarmedH U.vm → w.before a' U = true) (hcode : Cond.code y bytes maxL ret ∈ ws) (hinit : ∀ a' U, s.WarmedH U.vm → (Cond.initialized y.cls).before a' U = true)
    (XX : Stand p l e R s m sargs below meth c U locs cells slots) (hg : g.method = m) (hsize : g.locals.size = c.maxLocals) (hdg : decode c.code g.pc = .ok (ig, 3)) (hW : 2 * g.monitorRoom + (g.stack.map fun v => v.category).sum ≤ 8) (hn : U.methodNamed? y = some mk) (hp : Pc a U) (hf : cells + 1 ≤ R.cells ∧ slots + 6 ≤ R.slots) :
    ∃ (v : Nat) (V : State), Stand p l e R s m sargs below meth c V locs (cells + 1) (slots + 6) ∧ (∃ t : State, V.heap = t.heap ∧ qtE X (U.calling g mk a) v t) ∧ Steps p.tables e below (doInvoke e (U.setTop g) [] mk a).1 ((V.setTop g).pushFrame (.throwing v)) := by
  have hc0 := hws _ hcode a U XX.warmed
  obtain ⟨methY, cY, hmY, hcY, -, hlY, -, -, -, -⟩ := Cond.code_spec hn hc0
  obtain ⟨kY, hkY, -⟩ := className_of_methodNamed hn
  have hiY : kY.init = .initialized := Cond.initialized_spec (findClass_of_methodNamed hn) hkY (hinit a U XX.warmed)
  have hat : At U g.method c below := by rw [hg]; exact XX.here
  have hap : (headSpec ws rm).appliesLoose y e.platform (U.calling g mk a) = true := by
    refine Spec.appliesLoose_calling (g := g) hat hdg hn hkY hiY (XX.room_calling (g := g) (R' := rm) hsize hmY hcY hfr (by rw [hlY]; omega) (by rw [hrc]; exact hf.1) (by rw [hrs]; exact hf.2)) ?_
    exact atoms_intro fun w hw => hws w hw _ _ XX.warmed
  obtain ⟨mid, hmid⟩ := hat.above
  have hfs : (U.setTop g).frames = (.java g :: mid) ++ below := by rw [State.frames_setTop' g hat.top, hmid]; rfl
  obtain ⟨o, t, hst, -, hend, hq⟩ := Steps.callFree hM p XX.admits XX.cas XX.clock (acts := []) hfs hap (hbl _ _ g mk hp) trivial
  have hq2 : ∃ a0 : Nat, o = .threw a0 ∧ qtE X (U.calling g mk a) a0 t ∧ qfE (U.calling g mk a) t := hq
  obtain ⟨v, hv, hE, hWt, e2, q2, q3, q4, q5, q6⟩ := hq2
  subst hv
  rw [State.frames_setTop' g hat.top] at hend
  have hft : t.frames = .throwing v :: .java g :: U.frames.tail := hend
  obtain ⟨g0, hg0⟩ := Option.isSome_iff_exists.mp hat.top
  obtain ⟨r, hr⟩ := State.topJava?_eq_some.mp hg0
  obtain ⟨V, eV⟩ : ∃ V : State, V = ({ U with heap := t.heap, slotsUsed := t.slotsUsed } : State).setVm t.vm := ⟨_, rfl⟩
  have hVr : V.frames = .java g0 :: r := by rw [eV]; exact hr
  have e4 : t = ({ (U.calling g mk a).setFrames t.frames with heap := t.heap, slotsUsed := t.slotsUsed } : State).setVm t.vm := by
    have h9 : t = ({ t with vm := (U.calling g mk a).vm } : State).setVm t.vm := rfl
    rw [e2] at h9
    exact h9
  have e5 : t = (V.setTop g).pushFrame (.throwing v) := by
    refine e4.trans ?_
    rw [hft, State.calling_eq hat.top, State.setFrames_setFrames, State.pushFrame, State.frames_setTop _ hVr, State.setTop_of_frames _ hVr, State.setFrames_setFrames, hr, eV]
    rfl
  have hsm : U.sameButNew ({ U with heap := t.heap, slotsUsed := t.slotsUsed } : State) [] 1 6 := by
    refine ⟨?_, q2, q3, q4, q5, q6⟩
    obtain ⟨tt, ht, -⟩ := State.frames_cons hr
    show ({ U with heap := t.heap, slotsUsed := t.slotsUsed } : State) = { U.setFrames U.frames with heap := t.heap, slotsUsed := t.slotsUsed }
    rw [State.setFrames_self ht]
  have hWU : U.WarmedH t.vm := hWt
  refine ⟨v, V, ?_, ⟨t, by rw [eV]; rfl, hE⟩, by rw [← e5]; exact hst⟩
  have hsame := XX.same.trans (hsm.setVm s.vm)
  rw [List.append_nil] at hsame
  rw [eV]
  exact ⟨XX.admits, XX.cas, XX.clock, XX.frames, XX.room, XX.hears, XX.method, XX.code, (XX.here.setHeapUsed t.heap t.slotsUsed).setVm hWU.alike, XX.tail, State.WarmedH.trans XX.warmed hWU, XX.limits, XX.bytes, hsame⟩
end QCT
section QFH
variable {Q : Handler → Pre} {E : CtlPost} {e : Env} {d : Bool} {acts : List Action} {s : State} {f : JFrame} {a : Addr}
/-- the row of the table takes the exception -/
theorem go_hit {x : ExceptionTableEntry} {t : List ExceptionTableEntry} {c : ClassId} {cell : Cell} (hx : covers x f.pc = true) (h0 : x.catchType ≠ 0) (hl : s.vm.ClassLinks e.platform f.method.cls x.catchType c) (hcell : s.heap[a]? = some cell) (hobj : ∀ k, cell.vm ≠ .statics k) (hk : ∃ k, s.vm.classes[cell.cls]? = some k) (hc : ∃ k, s.vm.classes[c]? = some k) {b : Bool} (hfit : s.vm.assignable cell.cls c = b) :
    wp (findHandler.go f a (x :: t)) Q E e d acts s ↔ if b = true then Q (.found x.handlerPc) d acts (s.setVm (s.vm.noted f.method.cls x.catchType (.cls c))) else wp (findHandler.go f a t) Q E e d acts (s.setVm (s.vm.noted f.method.cls x.catchType (.cls c))) := by
  simp only [covers] at hx
  obtain ⟨r1, r2⟩ := (resolveClass_links e.toSetting hl).op (op := VmOp.resolveClass f.method.cls x.catchType) rfl
  have hal : s.vm.Alike (s.vm.noted f.method.cls x.catchType (.cls c)) := (Vm.Alike.refl s.vm).noted _ _ _
  obtain ⟨k1, hk1⟩ := hk
  obtain ⟨k2, hk2⟩ := hc
  obtain ⟨k3, hk3, -⟩ := hal.2.2 _ _ hk1
  obtain ⟨k4, hk4, -⟩ := hal.2.2 _ _ hk2
  have hf : (s.vm.noted f.method.cls x.catchType (.cls c)).assignable cell.cls c = b := by rw [hal.assignable]; exact hfit
  cases b <;> simp [findHandler.go, hx, h0, r1, r2, hcell, hobj, hk3, hk4, hf, VmOp.dirties, VmOp.acts]
def q_Fto (e : Env) (s : State) (f : JFrame) (a : Addr) (n : Nat) (vm' : Vm) : Prop := ∀ (Q : Handler → Pre) (E : CtlPost) (d : Bool) (acts : List Action), wp (findHandler f a) Q E e d acts s ↔ Q (.found n) d acts (s.setVm vm')
end QFH
/-- the walk goes on at the handler -/
theorem q_caught {tb : Tables} {e : Env} {s target : State} {g : JFrame} {c : Code} {below : List Frame} {a : Addr} {n : Nat} {vm' : Vm} (h : At s g.method c below) (hfind : q_Fto e ((s.setTop g).pushFrame (.throwing a)) g a n vm') (hrest : Steps tb e below ((s.setVm vm').setTop { g with pc := n, stack := [.ref a] }) target) : Steps tb e below ((s.setTop g).pushFrame (.throwing a)) target := by
  obtain ⟨h1, h2⟩ := h.throwing a
  refine Steps.head h1 h2 ?_
  have h3 : (stepThrowing e ((s.setTop g).pushFrame (.throwing a)) a (.java g :: s.frames.tail)).Is ((((s.setTop g).pushFrame (.throwing a)).setVm vm').setFrames (.java { g with pc := n, stack := [.ref a] } :: s.frames.tail)) [] := by
    simp only [stepThrowing, searchFrame, vmDo]
    generalize hr : Sem.go _ e false [] ((s.setTop g).pushFrame (.throwing a)) = res
    obtain ⟨as, rfl, ha⟩ := Sem.eq_ok_of hr (a := Handler.found n) (s' := ((s.setTop g).pushFrame (.throwing a)).setVm vm') (acts' := []) (by simp [hfind _ _ _ _])
    exact ⟨rfl, ha⟩
  rw [stepThread_throwing (frames_entered h.top _), h3.1]
  obtain ⟨g0, hg0⟩ := Option.isSome_iff_exists.mp h.top
  obtain ⟨r, hr⟩ := State.topJava?_eq_some.mp hg0
  have hr2 : (s.setVm vm').frames = .java g0 :: r := hr
  have sw : ∀ (u : State) (F G : List Frame), ((u.setFrames F).setVm vm').setFrames G = (u.setVm vm').setFrames G := fun u F G => by
    have e1 : (u.setFrames F).setVm vm' = (u.setVm vm').setFrames F := rfl
    rw [e1, State.setFrames_setFrames]
  rw [State.setTop_of_frames _ hr2] at hrest
  rw [hr, List.tail_cons, State.pushFrame, sw, State.setTop_of_frames _ hr, sw]
  exact hrest
section QCT2
variable {p : Program} {l : Launch} {e : Env} {R : Room} {s : State} {m : MethodId} {args sargs : Array Value} {below : List Frame} {meth : Method} {c : Code} {H : Heap} {locs : List Loc} {cells slots : Nat} {Q : State → Prop}
/-- what a table of this method does with an exception of a class -/
def q_takes (e : Env) (s : State) (m : MethodId) (pc : Nat) (th : ClassId) : List ExceptionTableEntry → Nat → Prop
  | [], _ => False
  | x :: t, n => covers x pc = true ∧ x.catchType ≠ 0 ∧ ∃ cT : ClassId, s.vm.ClassLinks e.platform m.cls x.catchType cT ∧ ((s.vm.assignable th cT = true ∧ x.handlerPc = n) ∨ (s.vm.assignable th cT = false ∧ q_takes e s m pc th t n))
theorem q_takes_to {f : JFrame} {a : Addr} {cell : Cell} (hobj : ∀ k, cell.vm ≠ .statics k) (hk0 : ∃ k, s.vm.classes[cell.cls]? = some k) : ∀ (tab : List ExceptionTableEntry) (n : Nat) (S : State), s.WarmedH S.vm → S.heap[a]? = some cell → q_takes e s f.method f.pc cell.cls tab n → ∃ vm', s.WarmedH vm' ∧ ∀ (Q : Handler → Pre) (E : CtlPost) (d : Bool) (acts : List Action), wp (findHandler.go f a tab) Q E e d acts S ↔ Q (.found n) d acts (S.setVm vm')
  | [], _, _, _, _, h => absurd h (fun q => q)
  | x :: t, n, S, hW, hcell, h => by
    obtain ⟨hx, h0, cT, hl, hh⟩ := h
    obtain ⟨k0, hk0'⟩ := hk0
    obtain ⟨k1, hk1, -⟩ := hW.alike.2.2 _ _ hk0'
    obtain ⟨dk, _, _, kt, hd, _, _, _, _, hkt, _, hopen⟩ := hl.here
    obtain ⟨k2, hk2, -⟩ := hW.alike.2.2 _ _ hkt
    have hW2 := hW.noted hd hopen (State.rightAt_cls hl)
    rcases hh with ⟨ha, hn⟩ | ⟨ha, ht⟩
    · refine ⟨_, hW2, fun Q E d acts => ?_⟩
      rw [go_hit hx h0 (hW.classLinks hl) hcell hobj ⟨k1, hk1⟩ ⟨k2, hk2⟩ (b := true) (by rw [hW.alike.assignable]; exact ha), if_pos rfl, hn]
    · obtain ⟨vm', hW3, hq⟩ := q_takes_to hobj ⟨k0, hk0'⟩ t n (S.setVm (S.vm.noted f.method.cls x.catchType (.cls cT))) hW2 hcell ht
      refine ⟨vm', hW3, fun Q E d acts => ?_⟩
      rw [go_hit hx h0 (hW.classLinks hl) hcell hobj ⟨k1, hk1⟩ ⟨k2, hk2⟩ (b := false) (by rw [hW.alike.assignable]; exact ha), if_neg (by decide)]
      exact hq Q E d acts
variable {cc : ByteArray} {pc nL n index : Nat} {ls : Array Slot} {rest As : List Value} {own C X : String} {b : Addr} {Ts ws : List Cond} {rm : Room} {Pc : Array Value → State → Prop} {y : MethodName} {bytes : ByteArray} {maxL : Nat} {ret : Option FieldType}
/-- a call of a method that throws, caught here -/
theorem q_callT (S : CallFix p m c cc nL s args Ts own) (hM : MetT l y ws rm Pc X) (cw : CallW R s args own C index y bytes maxL ret ws rm 1 6 n) (hp : PreV s H C b Pc As) (hn : As.length = n) (hsize : ls.size = nL) (hW8 : (rest.map fun v => v.category).sum ≤ 8) (hdg : decode cc pc = .ok (.invokevirtual index, 3)) (hf : cells + 1 ≤ R.cells ∧ slots + 6 ≤ R.slots)
    {hpc : Nat} (htk : e.platform.magicAccessors = ({} : Platform).magicAccessors → ∀ th, s.vm.findClass X = some th → s.vm.assignable th th = true → q_takes e s m pc th c.exceptionTable.toList hpc)
    (kk : ∀ (q : Nat) (H1 : Heap), H.size ≤ H1.size → (∀ z : Nat, z < H.size → H1[z]? = H[z]?) → W p l e R s m args below meth c H1 locs (cells + 1) (slots + 6) Q (F0 m hpc ls [.ref q])) :
    W p l e R s m args below meth c H locs cells slots Q (F0 m pc ls (As.reverse ++ .ref b :: rest)) := by
  obtain ⟨⟨hrc, hrs, hfr, hlo, hws, hcw, hcode, hini, hy, hlen, hlk⟩, hinst, hsel⟩ := cw
  obtain ⟨hx, hb, hml, hown, -⟩ := S
  obtain ⟨hbl, ⟨cellB, hcB, hoB, hclB⟩, hPc⟩ := hp
  intro T hT X0
  obtain ⟨mk, methM, hnamed, hmethM, hstM, habM⟩ := Cond.instanceMethod_spec hinst
  obtain ⟨methM', cM, hmethM', -, -, -, -, -, -, hsigM⟩ := Cond.code_spec hnamed hcode
  cases hmethM.symm.trans hmethM'
  obtain ⟨c2, r2, m2, q1, q2, q3, q4, kP, hkP, hkPi⟩ := Cond.selects_spec hsel
  cases hclB.symm.trans q1
  cases (State.methodFound?_of_named hnamed hy).symm.trans q2
  cases hnamed.symm.trans q3
  have hselP : selectMethod e.platform s.vm cellB.cls mk = .method mk := by rw [Launch.admits_selectMethod X0.admits]; exact q4
  obtain ⟨vm₁, X₁, hstep₁⟩ := X0.invokevirtual hx hown hlk hnamed hmethM hstM hkP hkPi hy (a := b) (cell := cellB) (by rw [hT]; exact hcB)
    (fun z h => by rw [h] at hoB; cases hoB) hselP hmethM habM hkP hkPi (g := F0 m pc ls (As.reverse ++ .ref b :: rest)) rfl (argsL := As) (rest := rest) (hn.trans (hlen _ hsigM)) rfl (by rw [hb]; exact hdg)
  obtain ⟨v, V, X', ⟨t, e1, z1, z2, ce, hce, hcls, hvm, hself⟩, hsteps⟩ := q_thrown (bytes := bytes) (maxL := maxL) (ret := ret) (g := { F0 m pc ls (As.reverse ++ .ref b :: rest) with stack := rest }) (ig := .invokevirtual index) (mk := mk) (a := (Value.ref b :: As).toArray) hM hbl hrc hrs hfr hlo hws hcw (fun a' U hW => word_at hW (Or.inl (by first | rfl | simp [Cond.onTables, Cond.keeps, Cond.steady])) hini)
    X₁ rfl (hsize.trans hml.symm) (by rw [hb]; exact hdg) (by show 2 * 0 + (rest.map fun v => v.category).sum ≤ 8; omega) (X₁.named hnamed) (hPc (T.setVm vm₁) hT X₁.warmed) hf
  have hcls' : s.vm.findClass X = some ce.cls := by
    have h9 : (T.setVm vm₁).vm.findClass X = some ce.cls := hcls
    rw [X₁.warmed.alike.findClass] at h9
    exact h9
  have hself' : s.vm.assignable ce.cls ce.cls = true := by
    have h9 : (T.setVm vm₁).vm.assignable ce.cls ce.cls = true := hself
    rw [X₁.warmed.alike.assignable] at h9
    exact h9
  have hcome : Steps p.tables e below (T.setTop (F0 m pc ls (As.reverse ++ .ref b :: rest))) ((V.setTop { F0 m pc ls (As.reverse ++ .ref b :: rest) with stack := rest }).pushFrame (.throwing v)) := hstep₁ _ (fun acts => by rw [doInvoke_state]; exact hsteps)
  have hceV : V.heap[v]? = some ce := by rw [e1]; exact hce
  obtain ⟨k9, hk9, -⟩ := Vm.findClass_spec hcls'
  have hvmN : ((V.setTop { F0 m pc ls (As.reverse ++ .ref b :: rest) with stack := rest }).pushFrame (.throwing v)).vm = V.vm := Stand.throwing_vm _ _ _
  have hhpN : ((V.setTop { F0 m pc ls (As.reverse ++ .ref b :: rest) with stack := rest }).pushFrame (.throwing v)).heap = V.heap := Stand.throwing_heap _ _ _
  obtain ⟨vm', hWv, hq⟩ := q_takes_to (e := e) (s := s) (f := { F0 m pc ls (As.reverse ++ .ref b :: rest) with stack := rest }) (a := v) (cell := ce) (fun k h => by rw [hvm] at h; cases h) ⟨k9, hk9⟩ c.exceptionTable.toList hpc ((V.setTop { F0 m pc ls (As.reverse ++ .ref b :: rest) with stack := rest }).pushFrame (.throwing v)) (by rw [hvmN]; exact X'.warmed) (by rw [hhpN]; exact hceV) (htk (by rw [X0.admits.platform]) _ hcls' hself')
  have hfind : q_Fto e ((V.setTop { F0 m pc ls (As.reverse ++ .ref b :: rest) with stack := rest }).pushFrame (.throwing v)) { F0 m pc ls (As.reverse ++ .ref b :: rest) with stack := rest } v hpc vm' := fun Q E d acts => by
    rw [W.findHandler_eq (meth := meth) (code := c) (by rw [hvmN]; exact X'.method') X'.code]
    exact hq Q E d acts
  have hsz : H.size ≤ (V.setVm vm').heap.size := by
    show H.size ≤ V.heap.size
    rw [e1, ← hT]; exact z1
  have hold : ∀ z : Nat, z < H.size → (V.setVm vm').heap[z]? = H[z]? := by
    intro z hz
    show V.heap[z]? = H[z]?
    rw [e1, ← hT]
    exact z2 z (by rw [← hT] at hz; exact hz)
  have XV : Stand p l e R s m args below meth c (V.setVm vm') locs (cells + 1) (slots + 6) := ⟨X'.admits, X'.cas, X'.clock, X'.frames, X'.room, X'.hears, X'.method, X'.code, X'.here.setVm (X'.warmed.alike.symm.trans hWv.alike), X'.tail, hWv, X'.limits, X'.bytes, X'.same⟩
  obtain ⟨t2, a1, b1⟩ := kk v _ hsz hold (V.setVm vm') rfl XV
  exact ⟨t2, hcome.trans (q_caught X'.here hfind a1), b1⟩
end QCT2
/-! methods with an exception table -/
/-- a contract of a method that answers an int, leaves w1 of w0, each cell at its place, and makes some cells of its own -/
abbrev q_CJ (l : Launch) (D : va_G) (cl : List vw_C) (tys : List (ClassId × FieldType)) (y : MethodName) (ws : List Cond) (rm : Room) (av : List Value) (w0 : va_W) (mc ms : Nat) {S : Type} (post : Int32 → S → Prop) (w1 : S → va_W) : Prop := ∀ sz : Nat, Met l y ws rm (q_Pm D cl tys av w0 sz) (va_Qi post (fun u t => va_P D cl (w1 u) t.heap) (va_A w0 sz)) mc ms (va_A w0 sz)
abbrev q_tab (c : Code) (hh : List (Nat × Nat × Nat × Nat)) : Prop := c.exceptionTable.toList.map (fun h => (h.startPc, h.endPc, h.handlerPc, h.catchType)) = hh
theorem q_entJ {l : Launch} {y : MethodName} {ws ws' : List Cond} {rm : Room} {av : List Value} {D : va_G} {cl : List vw_C} {tys : List (ClassId × FieldType)} {w0 : va_W} {cc : ByteArray} {maxL mc ms : Nat} {hh : List (Nat × Nat × Nat × Nat)} {S : Type} {post : Int32 → S → Prop} {w1 : S → va_W} (own : String)
    (hy : plainName y.cls = true) (hw : ws = Cond.codeWith y cc maxL (some .int) hh :: ws') (ho : y.cls = own) (hlen : (lg_sl av).length ≤ maxL)
    (body : ∀ (p : Program) (e : Env) (s : State) (m : MethodId) (below : List Frame) (meth : Method) (c : Code) (ls : Array Slot) (Q : State → Prop) (A : Nat → Prop), p.tables.exec = Jvm.exec → c.code = cc → c.maxLocals = maxL → (∀ w ∈ ws, w.before av.toArray s = true) → s.vm.findClass own = some m.cls → q_tab c hh → va_P D cl w0 s.heap → va_D A w0 → va_K D cl tys s → zN s → oN A s → (∀ q, s.heap.size ≤ q → A q) → va_S A s.heap s.heap [] → lv_has ls maxL (lv_args 0 av) →
      (∀ (r : Int32) (u : S) (pc : Nat) (ls : Array Slot) (H : Heap) (locs : List Loc), decode cc pc = .ok (.ireturn, 1) → post r u → va_P D cl (w1 u) H → va_S A s.heap H locs → W p l e (headSpec ws rm).room s m av.toArray below meth c H locs mc ms Q (F0 m pc ls [.int r])) →
      W p l e (headSpec ws rm).room s m av.toArray below meth c s.heap [] 0 0 Q (F0 m 0 ls [])) : q_CJ l D cl tys y ws rm av w0 mc ms post w1 := by
  intro sz
  refine va_MetW (cc := cc) (maxL := maxL) (ret := some .int) (hh := hh) hy hw ?_
  intro p e s m args below meth c s₁ B hml hv
  obtain ⟨rfl, hsz, hP, hK, hD0, hZ, hO⟩ := hv
  subst hsz
  have hr := B.returns
  have hts := atoms_spec (ws := ws) B.pre
  have hown : s.vm.findClass own = some m.cls := by rw [← ho]; exact findClass_of_methodNamed B.named
  have hlocks := B.notSynchronized
  have htab : q_tab c hh := by
    obtain ⟨m9, meth9, c9, h1, h2, h3, -, -, h6, -⟩ := Cond.codeWith_spec (hts _ (by rw [hw]; exact List.mem_cons_self))
    cases B.named.symm.trans h1
    cases B.method.symm.trans h2
    cases (Stand.of_body B).code.symm.trans h3
    exact h6
  have hD := hD0.self (sz := s.heap.size)
  have hl := lv_entry av (n := maxL) hlen
  rw [lg_entry_eq]
  generalize (lg_sl av ++ List.replicate (maxL - (lg_sl av).length) Slot.unset).toArray = ls at hl ⊢
  exact body p e s m below meth c ls _ _ B.exec B.bytes hml hts hown htab hP hD hK hZ hO (fun q h => Or.inr h) va_S.rf hl (fun r u pc ls H locs hd hp h1 hS => W.iret B.exec B.bytes hr (fun t ht hW => ⟨⟨r, u, rfl, hp, by show va_P D cl (w1 u) t.heap; rw [ht]; exact h1⟩, hS.F ht⟩) hS.2.2 hd)
theorem tab1 {c : Code} {a b d k : Nat} (h : q_tab c [(a, b, d, k)]) : ∃ x : ExceptionTableEntry, c.exceptionTable.toList = [x] ∧ x.startPc = a ∧ x.endPc = b ∧ x.handlerPc = d ∧ x.catchType = k := by
  unfold q_tab at h
  cases hl : c.exceptionTable.toList with
  | nil => rw [hl] at h; cases h
  | cons x t =>
    rw [hl] at h
    cases t with
    | nil => simp at h; exact ⟨x, rfl, h.1, h.2.1, h.2.2.1, h.2.2.2⟩
    | cons z t => simp at h
theorem tab2 {c : Code} {a b d k a2 b2 d2 k2 : Nat} (h : q_tab c [(a, b, d, k), (a2, b2, d2, k2)]) : ∃ x z : ExceptionTableEntry, c.exceptionTable.toList = [x, z] ∧ (x.startPc = a ∧ x.endPc = b ∧ x.handlerPc = d ∧ x.catchType = k) ∧ z.startPc = a2 ∧ z.endPc = b2 ∧ z.handlerPc = d2 ∧ z.catchType = k2 := by
  unfold q_tab at h
  cases hl : c.exceptionTable.toList with
  | nil => rw [hl] at h; cases h
  | cons x t =>
    rw [hl] at h
    cases t with
    | nil => simp at h
    | cons z t =>
      cases t with
      | nil => simp at h; exact ⟨x, z, rfl, ⟨h.1.1, h.1.2.1, h.1.2.2.1, h.1.2.2.2⟩, h.2.1, h.2.2.1, h.2.2.2.1, h.2.2.2.2⟩
      | cons z2 t => simp at h
theorem q_cov {x : ExceptionTableEntry} {pc a b : Nat} (h1 : x.startPc = a) (h2 : x.endPc = b) (h : a ≤ pc ∧ pc < b) : covers x pc = true := by
  subst h1; subst h2
  simp [covers, h.1, h.2]
/-- an exception's own row, first of the table -/
theorem q_own {e : Env} {s : State} {m : MethodId} {args : Array Value} {pc n k a b : Nat} {x : ExceptionTableEntry} {t : List ExceptionTableEntry} {own X : String} (hx : x.startPc = a ∧ x.endPc = b ∧ x.handlerPc = n ∧ x.catchType = k) (hab : a ≤ pc ∧ pc < b) (h0 : k ≠ 0) (hown : s.vm.findClass own = some m.cls) (hlink : (Cond.classLink own k X).before args s = true) :
    e.platform.magicAccessors = ({} : Platform).magicAccessors → ∀ th, s.vm.findClass X = some th → s.vm.assignable th th = true → q_takes e s m pc th (x :: t) n := by
  intro hpl th hth hs
  obtain ⟨c', hc', hcl⟩ := Cond.classLink_spec hown hlink e.platform hpl
  cases hth.symm.trans hc'
  obtain ⟨h1, h2, h3, h4⟩ := hx
  exact ⟨q_cov h1 h2 hab, by rw [h4]; exact h0, th, by rw [h4]; exact hcl, Or.inl ⟨hs, h3⟩⟩
/-- the first row is of another class -/
theorem q_next {e : Env} {s : State} {m : MethodId} {args : Array Value} {pc n nx k a b : Nat} {x : ExceptionTableEntry} {t : List ExceptionTableEntry} {own : String} (hx : x.startPc = a ∧ x.endPc = b ∧ x.handlerPc = nx ∧ x.catchType = k) (hab : a ≤ pc ∧ pc < b) (h0 : k ≠ 0) (hown : s.vm.findClass own = some m.cls) (hn : nC s) (hlink : (Cond.classLink own k xIO).before args s = true)
    (ht : e.platform.magicAccessors = ({} : Platform).magicAccessors → ∀ th, s.vm.findClass xIA = some th → s.vm.assignable th th = true → q_takes e s m pc th t n) :
    e.platform.magicAccessors = ({} : Platform).magicAccessors → ∀ th, s.vm.findClass xIA = some th → s.vm.assignable th th = true → q_takes e s m pc th (x :: t) n := by
  intro hpl th hth hs
  obtain ⟨c', hc', hcl⟩ := Cond.classLink_spec hown hlink e.platform hpl
  obtain ⟨c1, t1, h5, h6, h7⟩ := hn
  cases hth.symm.trans h5
  cases hc'.symm.trans h6
  obtain ⟨h1, h2, h3, h4⟩ := hx
  exact ⟨q_cov h1 h2 hab, by rw [h4]; exact h0, _, by rw [h4]; exact hcl, Or.inr ⟨h7, ht hpl th hth hs⟩⟩
section QCW
variable {p : Program} {l : Launch} {e : Env} {R : Room} {s : State} {m : MethodId} {args : Array Value} {below : List Frame} {meth : Method} {c : Code} {H : Heap} {locs : List Loc} {cells slots : Nat} {Q : State → Prop}
variable {cc bytes : ByteArray} {pc nL n index mc ms maxL : Nat} {ls : Array Slot} {rest As : List Value} {own C X : String} {b : Addr} {Ts ws : List Cond} {rm : Room} {Pc : Array Value → State → Prop} {Qc : Array Value → State → Outcome → State → Prop} {free : Addr → Prop} {y : MethodName} {ret : Option FieldType} {hh : List (Nat × Nat × Nat × Nat)} {g : JFrame}
/-- a call of a static method that has an exception table -/
theorem q_runSW (S : CallFix p m c cc nL s args Ts own) (hM : Met l y ws rm Pc Qc mc ms free) (hw : ws = Cond.codeWith y bytes maxL ret hh :: uU) (hc : (Cond.codeWith y bytes maxL ret hh).before args s = true) (hG : GoodIn Ts uU) (hcg : goodWord (Cond.codeWith y bytes maxL ret hh) = true) (hrc : rm.cells = mc) (hrs : rm.slots = ms) (hR : rm.frames + 1 ≤ R.frames ∧ 8 + (maxL + 11) + rm.locals ≤ R.locals)
    (hlk : (Cond.methodLink own index y).before args s = true) (hstt : (Cond.static y).before args s = true) (hini : (Cond.initialized y.cls).before args s = true) (hd : y.cls ≠ "java/lang/invoke/MethodHandle" ∧ y.cls ≠ "java/lang/invoke/VarHandle" ∧ (parseMethodDescriptor y.desc).map (fun d => d.parameters.length) = some n) (hp : PreS s H Pc As)
    (hg : g.method = m) (hn : As.length = n) (hsize : g.locals.size = nL) (hstack : g.stack = As.reverse ++ rest) (hW : 2 * g.monitorRoom + (rest.map fun v => v.category).sum ≤ 8) (hdg : decode cc g.pc = .ok (.invokestatic index, 3)) (hf : cells + mc ≤ R.cells ∧ slots + ms ≤ R.slots) :
    va_Run p l e R s m args below meth c H locs cells slots mc ms g rest (Qc As.toArray) (free) := by
  obtain ⟨hx, hb, hml, ho, hts⟩ := S
  have hws : ∀ w ∈ ws, ∀ (a' : Array Value) (U : State), s.WarmedH U.vm → w.before a' U = true := by
    intro w hw2 a' U hWU
    rw [hw] at hw2
    rcases List.mem_cons.mp hw2 with h | h
    · rw [h]; exact word_at hWU (good_of_word hcg) hc
    · exact pay_in hts hG w h a' U hWU
  have hK : Back l R p e below s args y 3 8 (PreOf R mc ms Pc) (PostOf Qc mc ms free) := va_backW (hh := hh) (bytes := bytes) (maxL := maxL) (ret := ret) hM hp.1 hrc hrs hR.1 hR.2 hws (by rw [hw]; exact List.mem_cons_self) (fun a' U hW => word_at hW (Or.inl (by first | rfl | simp [Cond.onTables, Cond.keeps, Cond.steady])) hini)
  intro T hT X0
  obtain ⟨mk, methM, cM, hnamed, hmethM, -, -, -, -, -, -, hsigM⟩ := Cond.codeWith_spec hc
  have hstatic : methM.isStatic = true := Cond.static_spec hnamed hmethM hstt
  obtain ⟨kP, hkP, -⟩ := className_of_methodNamed hnamed
  have hinitP : kP.init = .initialized := Cond.initialized_spec (findClass_of_methodNamed hnamed) hkP hini
  have hlen : As.length = methM.sig.parameters.length := by
    have h2 := hd.2.2
    rw [hsigM] at h2
    exact hn.trans (Option.some.inj h2).symm
  obtain ⟨vm₁, X₁, hstep₁⟩ := X0.invokestatic hx ho hlk hnamed hmethM hstatic hkP hinitP ⟨hd.1, hd.2.1⟩ (g := g) hg (argsL := As) (rest := rest) hlen hstack (by rw [hb]; exact hdg)
  obtain ⟨v, ⟨U', l2, c2, s2⟩, X', ⟨g', mk', t, L, e1, e2, hq, h1, hL, h2, h3⟩, hsteps⟩ := hK m meth c ⟨T.setVm vm₁, locs, cells, slots⟩ { g with stack := rest } (.invokestatic index) mk As.toArray X₁ hg (hsize.trans hml.symm) (by rw [hb]; exact hdg) hW (X₁.named hnamed) ⟨hf.1, hf.2, hp.2 (T.setVm vm₁) hT X₁.warmed⟩
  dsimp only [Pt.U, Pt.locs, Pt.cells, Pt.slots] at X' e1 e2 h1 h2 h3 hsteps
  subst h1; subst h2; subst h3
  exact ⟨v, (T.setVm vm₁).calling g' mk' As.toArray, t, U', L, hT, X', hL, e1, e2, hq, fun target h => hstep₁ _ fun acts => by rw [doInvoke_state]; exact hsteps.trans h⟩
end QCW
section QKT
variable {p : Program} {l : Launch} {e : Env} {R : Room} {s : State} {m : MethodId} {args : Array Value} {below : List Frame} {meth : Method} {c : Code} {H : Heap} {locs : List Loc} {cells slots : Nat} {Q : State → Prop}
variable {cc : ByteArray} {pc nL n index : Nat} {ls : Array Slot} {rest As : List Value} {own C X : String} {b : Addr} {Ts ws : List Cond} {rm : Room} {Pc : Array Value → State → Prop} {y : MethodName} {bytes : ByteArray} {maxL : Nat} {ret : Option FieldType} {D : va_G} {cl : List vw_C} {wW : va_W} {A : Nat → Prop} {H0 : Heap}
/-- the same, with the world: nothing of it is changed -/
theorem q_catch (S : CallFix p m c cc nL s args Ts own) (hM : MetT l y ws rm Pc X) (cw : CallW R s args own C index y bytes maxL ret ws rm 1 6 n) (hp : PreV s H C b Pc As) (hn : As.length = n) (hsize : ls.size = nL) (hW8 : (rest.map fun v => v.category).sum ≤ 8) (hdg : decode cc pc = .ok (.invokevirtual index, 3)) (hf : cells + 1 ≤ R.cells ∧ slots + 6 ≤ R.slots)
    {hpc : Nat} (htk : e.platform.magicAccessors = ({} : Platform).magicAccessors → ∀ th, s.vm.findClass X = some th → s.vm.assignable th th = true → q_takes e s m pc th c.exceptionTable.toList hpc) (hP : va_P D cl wW H) (hS : va_S A H0 H locs)
    (kk : ∀ (q : Nat) (H1 : Heap), va_P D cl wW H1 → va_S A H0 H1 locs → W p l e R s m args below meth c H1 locs (cells + 1) (slots + 6) Q (F0 m hpc ls [.ref q])) :
    W p l e R s m args below meth c H locs cells slots Q (F0 m pc ls (As.reverse ++ .ref b :: rest)) :=
  q_callT S hM cw hp hn hsize hW8 hdg hf htk (fun q H1 hz ho => kk q H1 (hP.kept (fun k z hk => ho z.1 (hP k z hk).lt)) ⟨Nat.le_trans hS.1 hz, fun z h1 h2 => (ho z (Nat.lt_of_lt_of_le h1 hS.1)).trans (hS.2.1 z h1 h2), hS.2.2⟩)
end QKT

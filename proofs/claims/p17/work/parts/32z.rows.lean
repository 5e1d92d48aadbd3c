/-! calls in large worlds: the callee's cells come behind the others -/
section QC9
variable {p : Program} {l : Launch} {e : Env} {R : Room} {s : State} {m : MethodId} {args : Array Value} {below : List Frame} {meth : Method} {c : Code} {H : Heap} {locs : List Loc} {cells slots mc ms : Nat} {Q : State → Prop}
variable {pc : Nat} {ls : Array Slot} {rest st0 : List Value} {a : Array Value} {A : Nat → Prop} {H0 : Heap} {D : va_G} {cl : List vw_C} {ws w0 wr : va_W} {S : Type} {w1 : S → va_W}
theorem q_D9 {sz : Nat} {x : va_W} (hD : va_D A ws) (is : List Nat) (hC : is.map (fun i => ws[i]?) = w0.map some) (hn : va_nd is = true) (hs : x.map (·.1) = w0.map (·.1)) : va_D (va_A w0 sz) x := by
  refine va_D.addr ((hD.sub is hn hC).self (sz := sz)) (fun k => ?_)
  have h1 : (x.map (·.1))[k]? = (w0.map (·.1))[k]? := by rw [hs]
  rw [List.getElem?_map, List.getElem?_map] at h1
  exact h1
theorem q_callv2 {post : S → Prop} (hr : va_Run p l e R s m args below meth c H locs cells slots mc ms (F0 m pc ls st0) rest (va_Qv post (fun u t => va_P D cl (w1 u) t.heap) (va_A w0 H.size) a) (va_A w0 H.size))
    (hP : va_P D cl ws H) (hD : va_D A ws) (hS : va_S A H0 H locs) (hA : ∀ q, H0.size ≤ q → A q) (is isR : List Nat) (hC : is.map (fun i => ws[i]?) = w0.map some) (hR : isR.map (fun i => ws[i]?) = wr.map some) (hni : va_nd is = true) (hn : va_nd isR = true) (hdis : ∀ i ∈ isR, i ∉ is) (hs : ∀ u, (w1 u).map (·.1) = w0.map (·.1))
    (kk : ∀ (u : S) (H1 : Heap) (locs1 : List Loc), post u → va_P D cl (wr ++ w1 u) H1 → va_D A (wr ++ w1 u) → va_S A H0 H1 locs1 → W p l e R s m args below meth c H1 locs1 (cells + mc) (slots + ms) Q (F0 m (pc + 3) ls rest)) : W p l e R s m args below meth c H locs cells slots Q (F0 m pc ls st0) := by
  have hF := va_free hD hS hA is hC
  refine va_callv hr hS (fun q _ h => hF q h) hF (fun u t H1 locs1 ht hvm hp hB hz hk hS1 => ?_)
  rw [ht] at hB
  obtain ⟨h1, h2⟩ := va_join hP hD is isR hC hR hn hdis hk hF hB (q_D9 hD is hC hni (hs u))
  exact kk u H1 locs1 hp h1 h2 hS1
theorem q_calli2 {post : Int32 → S → Prop} (hr : va_Run p l e R s m args below meth c H locs cells slots mc ms (F0 m pc ls st0) rest (va_Qi post (fun u t => va_P D cl (w1 u) t.heap) (va_A w0 H.size) a) (va_A w0 H.size))
    (hP : va_P D cl ws H) (hD : va_D A ws) (hS : va_S A H0 H locs) (hA : ∀ q, H0.size ≤ q → A q) (is isR : List Nat) (hC : is.map (fun i => ws[i]?) = w0.map some) (hR : isR.map (fun i => ws[i]?) = wr.map some) (hni : va_nd is = true) (hn : va_nd isR = true) (hdis : ∀ i ∈ isR, i ∉ is) (hs : ∀ u, (w1 u).map (·.1) = w0.map (·.1))
    (kk : ∀ (r : Int32) (u : S) (H1 : Heap) (locs1 : List Loc), post r u → va_P D cl (wr ++ w1 u) H1 → va_D A (wr ++ w1 u) → va_S A H0 H1 locs1 → W p l e R s m args below meth c H1 locs1 (cells + mc) (slots + ms) Q (F0 m (pc + 3) ls (.int r :: rest))) : W p l e R s m args below meth c H locs cells slots Q (F0 m pc ls st0) := by
  have hF := va_free hD hS hA is hC
  refine va_calli hr hS (fun q _ h => hF q h) hF (fun r u t H1 locs1 ht hvm hp hB hz hk hS1 => ?_)
  rw [ht] at hB
  obtain ⟨h1, h2⟩ := va_join hP hD is isR hC hR hn hdis hk hF hB (q_D9 hD is hC hni (hs u))
  exact kk r u H1 locs1 hp h1 h2 hS1
end QC9

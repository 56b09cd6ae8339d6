def uPc (g : gT) (D : va_G) (cy : Nat → ClassId) (av : List Value) (wc : va_W) (sz : Nat) : Array Value → State → Prop := va_Pc av (fun U => U.heap.size = sz ∧ va_P D vwCl wc U.heap ∧ va_K D vwCl (gTy cy) U ∧ va_D (fun _ => True) wc ∧ gH g (va_A wc sz) U U.heap ∧ gW g U)
def uQ (D : va_G) (A : Nat → Prop) (Post : Option Value → va_W → Prop) : Array Value → State → Outcome → State → Prop := fun _ st o t => (∃ v w1, o = .returned v ∧ Post v w1 ∧ va_P D vwCl w1 t.heap ∧ va_D A w1) ∧ va_F A st t
def UC (l : Launch) (y : MethodName) (cc : ByteArray) (nL : Nat) (ret : Option FieldType) (rm : Room) (g : gT) (D : va_G) (cy : Nat → ClassId) (av : List Value) (wc : va_W) (Post : Option Value → va_W → Prop) : Prop :=
  ∀ sz : Nat, Met l y (.code y cc nL ret :: wALL) rm (uPc g D cy av wc sz) (uQ D (va_A wc sz) Post) rm.cells rm.slots (va_A wc sz)
theorem uPc_blind {g : gT} {D : va_G} {cy : Nat → ClassId} {av : List Value} {wc : va_W} {sz : Nat} : FrameBlind (uPc g D cy av wc sz) := fun a U gg mk h => by
  obtain ⟨h0, h1, h2, h3, h4, h5, h6⟩ := h
  exact ⟨h0, h1, h2, va_K.moved (u := U) (U := U.calling gg mk a) (Vm.Alike.refl U.vm) h3, h4, gH.moved (u := U) (U := U.calling gg mk a) (Vm.Alike.refl U.vm) h5, gW.warm (s := U) (U := U.calling gg mk a) (State.WarmedH.refl U) h6⟩
theorem UC_of {l : Launch} {y : MethodName} {cc : ByteArray} {nL : Nat} {ret : Option FieldType} {rm : Room} {g : gT} {D : va_G} {cy : Nat → ClassId} {av : List Value} {wc : va_W} {Post : Option Value → va_W → Prop} (hy : plainName y.cls = true) (hn : (lg_sl av).length ≤ nL) (lv : List (Nat × Value)) (hlv : lv_args 0 av = lv)
    (body : ∀ (p : Program) (e : Env) (s : State) (m : MethodId) (args : Array Value) (below : List Frame) (meth : Method) (c : Code) (A : Nat → Prop), vC p s m args meth c cc nL ret y.cls y.name (.code y cc nL ret :: wALL) D cy g A → vV p l e rm s m args below meth c (MQ below (uQ D A Post) args s rm.cells rm.slots A) nL D A 0 0 wc 0 lv []) : UC l y cc nL ret rm g D cy av wc Post := by
  subst hlv
  intro sz
  refine Met.ofW (cc := cc) (maxL := nL) (ret := ret) hy rfl ?_
  intro p e s m args below meth c s₁ B hml hv
  obtain ⟨rfl, hsz, hP, hK, hD0, hG, hW⟩ := hv
  subst hsz
  have hts := atoms_spec (ws := .code y cc nL ret :: wALL) B.pre
  have hl := lv_entry av (n := nL) hn
  rw [lg_entry_eq]
  exact body p e s m _ below meth c (va_A wc s.heap.size) ⟨B.exec, B.bytes, hml, findClass_of_methodNamed B.named, hts, fun w h => List.mem_cons_of_mem _ h, hK, hG, hW, fun q h => Or.inr h, B.returns, B.notSynchronized, (name_of_methodNamed B.named B.method).1⟩ s.heap [] _ hP (hD0.self (sz := s.heap.size)) va_S.rf hl
section VC1
variable {p : Program} {l : Launch} {e : Env} {R : Room} {s : State} {m : MethodId} {args : Array Value} {below : List Frame} {meth : Method} {c : Code} {cells slots : Nat} {Q : State → Prop} {cc : ByteArray} {nL : Nat} {ret : Option FieldType} {own mn : String} {Ts : List Cond} {D : va_G} {cy : Nat → ClassId} {g : gT} {A : Nat → Prop} {ws : va_W} {pc : Nat} {lv : List (Nat × Value)} {rest : List Value}
theorem v_ireturn {ty : FieldType} {Post : Option Value → va_W → Prop} (cx : vC p s m args meth c cc nL (some ty) own mn Ts D cy g A) {v : Int32} (hn : narrow ty (.int v) = .int v) (d : decode cc pc = .ok (.ireturn, 1)) (hp : Post (some (.int v)) ws) : vV p l e R s m args below meth c (MQ below (uQ D A Post) args s cells slots A) nL D A (cells) (slots) (ws) (pc) lv ([.int v]) := fun H L ls hP hD hS h => W.zret cx.x cx.b cx.rt hn (fun t ht hW => ⟨⟨_, ws, rfl, hp, by rw [ht]; exact hP, hD⟩, hS.F ht⟩) hS.2.2 d cx.lo
theorem v_lreturn {Post : Option Value → va_W → Prop} (cx : vC p s m args meth c cc nL (some .long) own mn Ts D cy g A) {v : Int64} (d : decode cc pc = .ok (.lreturn, 1)) (hp : Post (some (.long v)) ws) : vV p l e R s m args below meth c (MQ below (uQ D A Post) args s cells slots A) nL D A (cells) (slots) (ws) (pc) lv ([.long v]) := fun H L ls hP hD hS h => W.lret cx.x cx.b cx.rt (fun t ht hW => ⟨⟨_, ws, rfl, hp, by rw [ht]; exact hP, hD⟩, hS.F ht⟩) hS.2.2 d cx.lo
theorem v_return {Post : Option Value → va_W → Prop} (cx : vC p s m args meth c cc nL none own mn Ts D cy g A) (d : decode cc pc = .ok (.return_, 1)) (hp : Post none ws) : vV p l e R s m args below meth c (MQ below (uQ D A Post) args s cells slots A) nL D A (cells) (slots) (ws) (pc) lv ([]) := fun H L ls hP hD hS h => W.vret cx.x cx.b cx.rt (fun t ht hW => ⟨⟨_, ws, rfl, hp, by rw [ht]; exact hP, hD⟩, hS.F ht⟩) hS.2.2 d cx.lo
/-- what a caller owes a contract, at its cells isC -/
theorem v_here (cx : vC p s m args meth c cc nL ret own mn Ts D cy g A) {av : List Value} {wc : va_W} {H : Heap} {locs : List Loc} (hP : va_P D vwCl ws H) (hD : va_D A ws) (hS : va_S A s.heap H locs) (isC : List Nat) (hnd : va_nd isC = true) (hC0 : isC.filterMap (fun i => ws[i]?) = wc) (hC : isC.map (fun i => ws[i]?) = wc.map some) : ∀ U : State, U.heap = H → s.WarmedH U.vm → uPc g D cy av wc H.size av.toArray U := fun U hU hW => by
  subst hU
  have hF := va_free hD hS cx.a isC hC
  exact ⟨rfl, rfl, hP.sub isC hC0, va_K.moved hW.alike cx.k, (hD.sub isC hnd hC).weaken (fun _ _ _ _ => trivial), gH.moved hW.alike ((cx.gh.kept hS.2.1).narrow hF), gW.warm hW cx.gw⟩
/-- a call has run: the caller's other cells wr, the callee's w1 -/
theorem v_ran (cx : vC p s m args meth c cc nL ret own mn Ts D cy g A) {mc ms : Nat} {H : Heap} {locs : List Loc} {ls : Array Slot} {st0 rest : List Value} {wc wr : va_W} {Post : Option Value → va_W → Prop} {a : Array Value} (hP : va_P D vwCl ws H) (hD : va_D A ws) (hS : va_S A s.heap H locs) (h : lv_has ls nL lv) (isC isR : List Nat) (hC : isC.map (fun i => ws[i]?) = wc.map some) (hRr : isR.map (fun i => ws[i]?) = wr.map some) (hnR : va_nd isR = true) (hdis : ∀ i ∈ isR, i ∉ isC)
    (hr : va_Run p l e R s m args below meth c H locs cells slots mc ms (F0 m pc ls st0) rest (uQ D (va_A wc H.size) Post a) (va_A wc H.size))
    (kk : ∀ (v : Option Value) (w1 : va_W), Post v w1 → vV p l e R s m args below meth c Q nL D A (cells + mc) (slots + ms) (wr ++ w1) (pc + 3) lv (v.toList ++ rest)) : W p l e R s m args below meth c H locs cells slots Q (F0 m pc ls st0) := by
  intro T hT X
  obtain ⟨v, st₀, t, T', L, h0, X', hL, e1, e2, ⟨⟨v', w1, hv, hp, hP1, hD1⟩, hz, hk⟩, st⟩ := hr T hT X
  cases hv
  rw [h0] at hz hk
  have hF := va_free hD hS cx.a isC hC
  have hj := va_join hP hD isC isR hC hRr hnR hdis (H1 := T'.heap) (fun q h1 h2 => by rw [e1]; exact hk q h1 h2) hF (by rw [e1]; exact hP1) hD1
  obtain ⟨t2, a1, b1⟩ := kk v w1 hp T'.heap (locs ++ L) ls hj.1 hj.2
    ⟨Nat.le_trans hS.1 (by rw [e1]; exact hz), fun q h1 h2 => by rw [e1, hk q (Nat.lt_of_lt_of_le h1 hS.1) (fun z => h2 (hF q z))]; exact hS.2.1 q h1 h2, fun q hq => by
      rcases List.mem_append.mp hq with h | h
      · exact hS.2.2 q h
      · exact hF _ (hL q h)⟩ h T' rfl X'
  exact ⟨t2, st t2 a1, b1⟩
def kV (own C : String) (index : Nat) (y : MethodName) (bytes : ByteArray) (maxL : Nat) (ret : Option FieldType) (n : Nat) : Prop := Cond.methodLink own index y ∈ wALL ∧ Cond.instanceMethod y ∈ wALL ∧ Cond.selects C y y ∈ wALL ∧ Cond.initialized C ∈ wALL ∧ Cond.code y bytes maxL ret ∈ wALL ∧ (y.cls = C ∧ y.cls ≠ "java/lang/invoke/MethodHandle" ∧ y.cls ≠ "java/lang/invoke/VarHandle" ∧ (parseMethodDescriptor y.desc).map (fun d => d.parameters.length) = some n)
def kS (own : String) (index : Nat) (y : MethodName) (bytes : ByteArray) (maxL : Nat) (ret : Option FieldType) (n : Nat) : Prop := Cond.methodLink own index y ∈ wALL ∧ Cond.static y ∈ wALL ∧ Cond.initialized y.cls ∈ wALL ∧ Cond.code y bytes maxL ret ∈ wALL ∧ (y.cls ≠ "java/lang/invoke/MethodHandle" ∧ y.cls ≠ "java/lang/invoke/VarHandle" ∧ (parseMethodDescriptor y.desc).map (fun d => d.parameters.length) = some n)
def kSN (own : String) (index : Nat) (y : MethodName) (bytes : ByteArray) (maxL : Nat) (ret : Option FieldType) (n : Nat) : Prop := (∃ host, (own, index, y, host) ∈ gNM) ∧ Cond.static y ∈ wALL ∧ Cond.initialized y.cls ∈ wALL ∧ Cond.code y bytes maxL ret ∈ wALL ∧ (y.cls ≠ "java/lang/invoke/MethodHandle" ∧ y.cls ≠ "java/lang/invoke/VarHandle" ∧ (parseMethodDescriptor y.desc).map (fun d => d.parameters.length) = some n)
def kI (own : String) (index : Nat) (y : MethodName) (bytes : ByteArray) (maxL : Nat) (n : Nat) : Prop := Cond.methodLink own index y ∈ wALL ∧ Cond.instanceMethod y ∈ wALL ∧ Cond.initialized y.cls ∈ wALL ∧ Cond.code y bytes maxL none ∈ wALL ∧ y.name = "<init>" ∧ (y.cls ≠ "java/lang/invoke/MethodHandle" ∧ y.cls ≠ "java/lang/invoke/VarHandle" ∧ (parseMethodDescriptor y.desc).map (fun d => d.parameters.length) = some n)
def kIN (own : String) (index : Nat) (y : MethodName) (bytes : ByteArray) (maxL : Nat) (n : Nat) : Prop := (∃ host, (own, index, y, host) ∈ gNM) ∧ Cond.instanceMethod y ∈ wALL ∧ Cond.initialized y.cls ∈ wALL ∧ Cond.code y bytes maxL none ∈ wALL ∧ y.name = "<init>" ∧ (y.cls ≠ "java/lang/invoke/MethodHandle" ∧ y.cls ≠ "java/lang/invoke/VarHandle" ∧ (parseMethodDescriptor y.desc).map (fun d => d.parameters.length) = some n)
theorem wG_c {Ts : List Cond} {w0 : Cond} (h1 : ∀ w ∈ wALL, w ∈ Ts) (h2 : w0 ∈ wALL) : GoodIn Ts (w0 :: wALL) := wA_goodIn h1 (fun w h => (List.mem_cons.mp h).elim (fun q => q ▸ h2) id)
theorem wG_V {Ts : List Cond} {own C : String} {index : Nat} {y : MethodName} {w0 : Cond} (h0 : ∀ w ∈ wALL, w ∈ Ts) (h1 : Cond.methodLink own index y ∈ wALL) (h2 : Cond.instanceMethod y ∈ wALL) (h3 : Cond.selects C y y ∈ wALL) (h4 : Cond.initialized C ∈ wALL) (h5 : w0 ∈ wALL) : GoodIn Ts (wsV own index C y (w0 :: wALL)) := wA_goodIn h0 (fun w h => by
  unfold wsV at h
  simp only [List.mem_append, List.mem_cons, List.not_mem_nil, or_false] at h
  rcases h with (rfl | rfl | rfl | rfl) | (rfl | h) <;> assumption)
theorem wG_S {Ts : List Cond} {own : String} {index : Nat} {y : MethodName} {w0 : Cond} (h0 : ∀ w ∈ wALL, w ∈ Ts) (h1 : Cond.methodLink own index y ∈ wALL) (h2 : Cond.static y ∈ wALL) (h3 : Cond.initialized y.cls ∈ wALL) (h5 : w0 ∈ wALL) : GoodIn Ts (va_wsS own index y (w0 :: wALL)) := wA_goodIn h0 (fun w h => by
  unfold va_wsS at h
  simp only [List.mem_append, List.mem_cons, List.not_mem_nil, or_false] at h
  rcases h with (rfl | rfl | rfl) | (rfl | h) <;> assumption)
theorem v_callV (cx : vC p s m args meth c cc nL ret own mn Ts D cy g A) {y : MethodName} {bytes : ByteArray} {maxL index n ci q0 b : Nat} {rt : Option FieldType} {rm : Room} {C : String} {T : u_T} {N : Nat} {fs As st : List Value} {wc : va_W} {Post : Option Value → va_W → Prop} (hM : UC l y bytes maxL rt rm g D cy (.ref b :: As) wc Post) (kw : kV own C index y bytes maxL rt n)
    (hR : rm.frames + 1 ≤ R.frames ∧ 8 + (maxL + 11) + rm.locals ≤ R.locals) (hf : cells + rm.cells ≤ R.cells ∧ slots + rm.slots ≤ R.slots) (hn : As.length = n) (hst : st = As.reverse ++ .ref b :: rest) (hcat : (rest.map fun v => v.category).sum ≤ 8) (d : decode cc pc = .ok (.invokevirtual index, 3))
    (isC isR : List Nat) (hnd : va_nd isC = true ∧ va_nd isR = true ∧ ∀ i ∈ isR, i ∉ isC) (hC0 : isC.filterMap (fun i => ws[i]?) = wc) (hC : isC.map (fun i => ws[i]?) = wc.map some) (hRr : isR.map (fun i => ws[i]?) = (isR.filterMap (fun i => ws[i]?)).map some) (hb : wc[q0]? = some (b, .inr (ci, fs))) (hcl : vwCl[ci]? = some (C, T, N))
    (kk : ∀ (v : Option Value) (w1 : va_W), Post v w1 → vV p l e R s m args below meth c Q nL D A (cells + rm.cells) (slots + rm.slots) (isR.filterMap (fun i => ws[i]?) ++ w1) (pc + 3) lv (v.toList ++ rest)) : vV p l e R s m args below meth c Q nL D A (cells) (slots) (ws) (pc) lv (st) := fun H L ls hP hD hS h => by
  subst hst
  refine v_ran cx hP hD hS h isC isR hC hRr hnd.2.1 hnd.2.2 (va_runV (As := As) (rest := rest) ⟨cx.x, cx.b, cx.ml, cx.ow, cx.ts⟩ (hM H.size) (cwV n cx.ts (wG_V cx.wl kw.1 kw.2.1 kw.2.2.1 kw.2.2.2.1 kw.2.2.2.2.1) rfl rfl rfl kw.2.2.2.2.2 hR) ⟨uPc_blind, va_recv cx.k (hP.sub isC hC0) hcl hb, v_here cx hP hD hS isC hnd.1 hC0 hC⟩ rfl hn h.1 rfl (lv_room hcat) d hf) kk
theorem v_callS (cx : vC p s m args meth c cc nL ret own mn Ts D cy g A) {y : MethodName} {bytes : ByteArray} {maxL index n : Nat} {rt : Option FieldType} {rm : Room} {As st : List Value} {wc : va_W} {Post : Option Value → va_W → Prop} (hM : UC l y bytes maxL rt rm g D cy As wc Post) (kw : kS own index y bytes maxL rt n)
    (hR : rm.frames + 1 ≤ R.frames ∧ 8 + (maxL + 11) + rm.locals ≤ R.locals) (hf : cells + rm.cells ≤ R.cells ∧ slots + rm.slots ≤ R.slots) (hn : As.length = n) (hst : st = As.reverse ++ rest) (hcat : (rest.map fun v => v.category).sum ≤ 8) (d : decode cc pc = .ok (.invokestatic index, 3))
    (isC isR : List Nat) (hnd : va_nd isC = true ∧ va_nd isR = true ∧ ∀ i ∈ isR, i ∉ isC) (hC0 : isC.filterMap (fun i => ws[i]?) = wc) (hC : isC.map (fun i => ws[i]?) = wc.map some) (hRr : isR.map (fun i => ws[i]?) = (isR.filterMap (fun i => ws[i]?)).map some)
    (kk : ∀ (v : Option Value) (w1 : va_W), Post v w1 → vV p l e R s m args below meth c Q nL D A (cells + rm.cells) (slots + rm.slots) (isR.filterMap (fun i => ws[i]?) ++ w1) (pc + 3) lv (v.toList ++ rest)) : vV p l e R s m args below meth c Q nL D A (cells) (slots) (ws) (pc) lv (st) := fun H L ls hP hD hS h => by
  subst hst
  refine v_ran cx hP hD hS h isC isR hC hRr hnd.2.1 hnd.2.2 (va_runS (As := As) (rest := rest) ⟨cx.x, cx.b, cx.ml, cx.ow, cx.ts⟩ (hM H.size) (va_cwS n cx.ts (wG_S cx.wl kw.1 kw.2.1 kw.2.2.1 kw.2.2.2.1) rfl rfl rfl kw.2.2.2.2 hR) ⟨uPc_blind, v_here cx hP hD hS isC hnd.1 hC0 hC⟩ rfl hn h.1 rfl (lv_room hcat) d hf) kk
theorem v_callSN (cx : vC p s m args meth c cc nL ret own mn Ts D cy g A) {y : MethodName} {bytes : ByteArray} {maxL index n : Nat} {rt : Option FieldType} {rm : Room} {As st : List Value} {wc : va_W} {Post : Option Value → va_W → Prop} (hM : UC l y bytes maxL rt rm g D cy As wc Post) (kw : kSN own index y bytes maxL rt n)
    (hR : rm.frames + 1 ≤ R.frames ∧ 8 + (maxL + 11) + rm.locals ≤ R.locals) (hf : cells + rm.cells ≤ R.cells ∧ slots + rm.slots ≤ R.slots) (hn : As.length = n) (hst : st = As.reverse ++ rest) (hcat : (rest.map fun v => v.category).sum ≤ 8) (d : decode cc pc = .ok (.invokestatic index, 3))
    (isC isR : List Nat) (hnd : va_nd isC = true ∧ va_nd isR = true ∧ ∀ i ∈ isR, i ∉ isC) (hC0 : isC.filterMap (fun i => ws[i]?) = wc) (hC : isC.map (fun i => ws[i]?) = wc.map some) (hRr : isR.map (fun i => ws[i]?) = (isR.filterMap (fun i => ws[i]?)).map some)
    (kk : ∀ (v : Option Value) (w1 : va_W), Post v w1 → vV p l e R s m args below meth c Q nL D A (cells + rm.cells) (slots + rm.slots) (isR.filterMap (fun i => ws[i]?) ++ w1) (pc + 3) lv (v.toList ++ rest)) : vV p l e R s m args below meth c Q nL D A (cells) (slots) (ws) (pc) lv (st) := fun H L ls hP hD hS h => by
  subst hst
  obtain ⟨⟨host, hq⟩, h2, h3, h4, h5⟩ := kw
  refine v_ran cx hP hD hS h isC isR hC hRr hnd.2.1 hnd.2.2 (va_runSN (As := As) (rest := rest) ⟨cx.x, cx.b, cx.ml, cx.ow, cx.ts⟩ (hM H.size) ⟨va_cnB n cx.ts (wG_c cx.wl h4) rfl rfl rfl (cx.gw.2.1 _ hq) (cx.w h3) h5 hR, cx.w h2, trivial⟩ ⟨uPc_blind, v_here cx hP hD hS isC hnd.1 hC0 hC⟩ rfl hn h.1 rfl (lv_room hcat) d hf) kk
theorem v_callI (cx : vC p s m args meth c cc nL ret own mn Ts D cy g A) {y : MethodName} {bytes : ByteArray} {maxL index n b : Nat} {rm : Room} {As st : List Value} {wc : va_W} {Post : Option Value → va_W → Prop} (hM : UC l y bytes maxL none rm g D cy (.ref b :: As) wc Post) (kw : kI own index y bytes maxL n)
    (hR : rm.frames + 1 ≤ R.frames ∧ 8 + (maxL + 11) + rm.locals ≤ R.locals) (hf : cells + rm.cells ≤ R.cells ∧ slots + rm.slots ≤ R.slots) (hn : As.length = n) (hst : st = As.reverse ++ .ref b :: rest) (hcat : (rest.map fun v => v.category).sum ≤ 8) (d : decode cc pc = .ok (.invokespecial index, 3))
    (isC isR : List Nat) (hnd : va_nd isC = true ∧ va_nd isR = true ∧ ∀ i ∈ isR, i ∉ isC) (hC0 : isC.filterMap (fun i => ws[i]?) = wc) (hC : isC.map (fun i => ws[i]?) = wc.map some) (hRr : isR.map (fun i => ws[i]?) = (isR.filterMap (fun i => ws[i]?)).map some)
    (kk : ∀ (v : Option Value) (w1 : va_W), Post v w1 → vV p l e R s m args below meth c Q nL D A (cells + rm.cells) (slots + rm.slots) (isR.filterMap (fun i => ws[i]?) ++ w1) (pc + 3) lv (v.toList ++ rest)) : vV p l e R s m args below meth c Q nL D A (cells) (slots) (ws) (pc) lv (st) := fun H L ls hP hD hS h => by
  subst hst
  obtain ⟨h1, h2, h3, h4, h5, h6⟩ := kw
  refine v_ran cx hP hD hS h isC isR hC hRr hnd.2.1 hnd.2.2 (va_runI (As := As) (rest := rest) ⟨cx.x, cx.b, cx.ml, cx.ow, cx.ts⟩ (hM H.size) (cwI n cx.ts (wG_c cx.wl h4) rfl rfl rfl (cx.w h3) (cx.w h1) (cx.w h2) h5 h6 hR) ⟨uPc_blind, v_here cx hP hD hS isC hnd.1 hC0 hC⟩ rfl hn h.1 rfl (lv_room hcat) d hf) kk
theorem v_callIN (cx : vC p s m args meth c cc nL ret own mn Ts D cy g A) {y : MethodName} {bytes : ByteArray} {maxL index n b : Nat} {rm : Room} {As st : List Value} {wc : va_W} {Post : Option Value → va_W → Prop} (hM : UC l y bytes maxL none rm g D cy (.ref b :: As) wc Post) (kw : kIN own index y bytes maxL n)
    (hR : rm.frames + 1 ≤ R.frames ∧ 8 + (maxL + 11) + rm.locals ≤ R.locals) (hf : cells + rm.cells ≤ R.cells ∧ slots + rm.slots ≤ R.slots) (hn : As.length = n) (hst : st = As.reverse ++ .ref b :: rest) (hcat : (rest.map fun v => v.category).sum ≤ 8) (d : decode cc pc = .ok (.invokespecial index, 3))
    (isC isR : List Nat) (hnd : va_nd isC = true ∧ va_nd isR = true ∧ ∀ i ∈ isR, i ∉ isC) (hC0 : isC.filterMap (fun i => ws[i]?) = wc) (hC : isC.map (fun i => ws[i]?) = wc.map some) (hRr : isR.map (fun i => ws[i]?) = (isR.filterMap (fun i => ws[i]?)).map some)
    (kk : ∀ (v : Option Value) (w1 : va_W), Post v w1 → vV p l e R s m args below meth c Q nL D A (cells + rm.cells) (slots + rm.slots) (isR.filterMap (fun i => ws[i]?) ++ w1) (pc + 3) lv (v.toList ++ rest)) : vV p l e R s m args below meth c Q nL D A (cells) (slots) (ws) (pc) lv (st) := fun H L ls hP hD hS h => by
  subst hst
  obtain ⟨⟨host, hq⟩, h2, h3, h4, h5, h6⟩ := kw
  refine v_ran cx hP hD hS h isC isR hC hRr hnd.2.1 hnd.2.2 (va_runIN (As := As) (rest := rest) ⟨cx.x, cx.b, cx.ml, cx.ow, cx.ts⟩ (hM H.size) ⟨va_cnB n cx.ts (wG_c cx.wl h4) rfl rfl rfl (cx.gw.2.1 _ hq) (cx.w h3) h6 hR, h5, cx.w h2⟩ ⟨uPc_blind, v_here cx hP hD hS isC hnd.1 hC0 hC⟩ rfl hn h.1 rfl (lv_room hcat) d hf) kk
/-- Object.<init> -/
theorem v_objInit (cx : vC p s m args meth c cc nL ret own mn Ts D cy g A) {index b : Nat} (h1 : Cond.methodLink own index objectInit ∈ wALL) (h2 : Cond.instanceMethod objectInit ∈ wALL) (h3 : Cond.code objectInit ⟨#[0xb1]⟩ 1 none ∈ wALL) (d : decode cc pc = .ok (.invokespecial index, 3)) (hfr : 1 ≤ R.frames) (hlo : (rest.map fun v => v.category).sum + 12 ≤ R.locals) (k : vV p l e R s m args below meth c Q nL D A (cells) (slots) (ws) (pc + 3) lv (rest)) : vV p l e R s m args below meth c Q nL D A (cells) (slots) (ws) (pc) lv (.ref b :: rest) := fun H L ls hP hD hS h => W.objInit cx.x cx.b cx.ow (cx.w h1) (cx.w h2) (cx.w h3) rfl (by rw [cx.ml]; exact h.1) rfl d hfr (by show 2 * 0 + _ + 12 ≤ _; omega) (k H L ls hP hD hS h)
end VC1

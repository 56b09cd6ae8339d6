section VC2
variable {p : Program} {l : Launch} {e : Env} {R : Room} {s : State} {m : MethodId} {args : Array Value} {below : List Frame} {meth : Method} {c : Code} {cells slots : Nat} {Q : State → Prop} {cc : ByteArray} {nL : Nat} {ret : Option FieldType} {own mn : String} {Ts : List Cond} {D : va_G} {cy : Nat → ClassId} {g : gT} {A : Nat → Prop} {ws : va_W} {pc : Nat} {lv : List (Nat × Value)} {rest : List Value}
theorem v_after {ws' : va_W} {st st' : List Value} {ce sl : Nat} (is : List Nat) (hn : va_nd is = true) (hs : is.filterMap (fun i => ws[i]?) = ws') (hm : is.map (fun i => ws[i]?) = ws'.map some) (hst : st = st') (hc : cells = ce ∧ slots = sl) (k : vV p l e R s m args below meth c Q nL D A (ce) (sl) (ws') (pc) lv (st')) : vV p l e R s m args below meth c Q nL D A (cells) (slots) (ws) (pc) lv (st) := by
  obtain ⟨rfl, rfl⟩ := hc
  subst hst
  exact v_perm is hn hs hm k
theorem v_top {v v' : Value} (hv : v' = v) (k : vV p l e R s m args below meth c Q nL D A (cells) (slots) (ws) (pc) lv (v :: rest)) : vV p l e R s m args below meth c Q nL D A (cells) (slots) (ws) (pc) lv (v' :: rest) := hv ▸ k
theorem v_all {n : Nat} {isC isR : List Nat} (h : (List.range n).all (fun i => isC.contains i || isR.contains i) = true) : ∀ i, i < n → i ∈ isC ∨ i ∈ isR := fun i hi => by
  have h1 := List.all_eq_true.mp h i (List.mem_range.mpr hi)
  simp only [Bool.or_eq_true, List.contains_iff_mem] at h1
  exact h1
/-- the caller's world is the same behind a callee that changed nothing -/
theorem v_back {ws wc : va_W} {D : va_G} {H1 : Heap} (isC isR : List Nat) (hC : isC.map (fun i => ws[i]?) = wc.map some) (hall : ∀ i, i < ws.length → i ∈ isC ∨ i ∈ isR) (hP : va_P D vwCl (isR.filterMap (fun i => ws[i]?) ++ wc) H1) : va_P D vwCl ws H1 := by
  have key : ∀ q ∈ isR.filterMap (fun i => ws[i]?) ++ wc, va_at D vwCl q H1 := fun q hq => by
    obtain ⟨k, hk⟩ := List.getElem?_of_mem hq
    exact hP k q hk
  intro k q hk
  have hl := (List.getElem?_eq_some_iff.mp hk).1
  refine key q ?_
  rcases hall k hl with h | h
  · refine List.mem_append_right _ ?_
    have h1 : some q ∈ isC.map (fun i => ws[i]?) := List.mem_map.mpr ⟨k, h, hk⟩
    rw [hC] at h1
    obtain ⟨x, hx, he⟩ := List.mem_map.mp h1
    cases he
    exact hx
  · exact List.mem_append_left _ (List.mem_filterMap.mpr ⟨k, h, hk⟩)
theorem v_callVpi (cx : vC p s m args meth c cc nL ret own mn Ts D cy g A) {y : MethodName} {bytes : ByteArray} {maxL index n : Nat} {rt : Option FieldType} {rm : Room} {C : String} {ci q0 b : Nat} {T : u_T} {N0 : Nat} {fs : List Value} {As st : List Value} {wc : va_W} {PQ : Int32 → Prop} (hM : UC l y bytes maxL rt rm g D cy (.ref b :: As) wc (fun v w => w = wc ∧ ∃ r : Int32, v = some (.int r) ∧ PQ r)) (kw : kV own C index y bytes maxL rt n)
    (hR : rm.frames + 1 ≤ R.frames ∧ 8 + (maxL + 11) + rm.locals ≤ R.locals) (hz : rm.cells = 0 ∧ rm.slots = 0) (hf : cells ≤ R.cells ∧ slots ≤ R.slots) (hn : As.length = n) (hst : st = As.reverse ++ .ref b :: rest) (hcat : (rest.map fun v => v.category).sum ≤ 8) (d : decode cc pc = .ok (.invokevirtual index, 3))
    (isC isR : List Nat) (hnd : va_nd isC = true ∧ va_nd isR = true ∧ ∀ i ∈ isR, i ∉ isC) (hall : (List.range ws.length).all (fun i => isC.contains i || isR.contains i) = true) (hC0 : isC.filterMap (fun i => ws[i]?) = wc) (hC : isC.map (fun i => ws[i]?) = wc.map some) (hRr : isR.map (fun i => ws[i]?) = (isR.filterMap (fun i => ws[i]?)).map some) (hb : wc[q0]? = some (b, .inr (ci, fs))) (hcl : vwCl[ci]? = some (C, T, N0))
    (kk : ∀ r : Int32, PQ r → vV p l e R s m args below meth c Q nL D A (cells) (slots) (ws) (pc + 3) lv (.int r :: rest)) : vV p l e R s m args below meth c Q nL D A (cells) (slots) (ws) (pc) lv (st) := fun H L ls hP hD hS h => v_callV cx hM kw hR ⟨by rw [hz.1]; exact hf.1, by rw [hz.2]; exact hf.2⟩ hn hst hcat d isC isR hnd hC0 hC hRr hb hcl (fun v w1 hp => by
  intro H1 L1 ls1 hP1 _ hS1 h1
  obtain ⟨rfl, r, rfl, hq⟩ := hp
  have k := kk r hq H1 L1 ls1 (v_back isC isR hC (v_all hall) hP1) hD hS1 h1
  rw [hz.1, hz.2]
  exact k) H L ls hP hD hS h
theorem v_callVpl (cx : vC p s m args meth c cc nL ret own mn Ts D cy g A) {y : MethodName} {bytes : ByteArray} {maxL index n : Nat} {rt : Option FieldType} {rm : Room} {C : String} {ci q0 b : Nat} {T : u_T} {N0 : Nat} {fs : List Value} {As st : List Value} {wc : va_W} {PQ : Int64 → Prop} (hM : UC l y bytes maxL rt rm g D cy (.ref b :: As) wc (fun v w => w = wc ∧ ∃ r : Int64, v = some (.long r) ∧ PQ r)) (kw : kV own C index y bytes maxL rt n)
    (hR : rm.frames + 1 ≤ R.frames ∧ 8 + (maxL + 11) + rm.locals ≤ R.locals) (hz : rm.cells = 0 ∧ rm.slots = 0) (hf : cells ≤ R.cells ∧ slots ≤ R.slots) (hn : As.length = n) (hst : st = As.reverse ++ .ref b :: rest) (hcat : (rest.map fun v => v.category).sum ≤ 8) (d : decode cc pc = .ok (.invokevirtual index, 3))
    (isC isR : List Nat) (hnd : va_nd isC = true ∧ va_nd isR = true ∧ ∀ i ∈ isR, i ∉ isC) (hall : (List.range ws.length).all (fun i => isC.contains i || isR.contains i) = true) (hC0 : isC.filterMap (fun i => ws[i]?) = wc) (hC : isC.map (fun i => ws[i]?) = wc.map some) (hRr : isR.map (fun i => ws[i]?) = (isR.filterMap (fun i => ws[i]?)).map some) (hb : wc[q0]? = some (b, .inr (ci, fs))) (hcl : vwCl[ci]? = some (C, T, N0))
    (kk : ∀ r : Int64, PQ r → vV p l e R s m args below meth c Q nL D A (cells) (slots) (ws) (pc + 3) lv (.long r :: rest)) : vV p l e R s m args below meth c Q nL D A (cells) (slots) (ws) (pc) lv (st) := fun H L ls hP hD hS h => v_callV cx hM kw hR ⟨by rw [hz.1]; exact hf.1, by rw [hz.2]; exact hf.2⟩ hn hst hcat d isC isR hnd hC0 hC hRr hb hcl (fun v w1 hp => by
  intro H1 L1 ls1 hP1 _ hS1 h1
  obtain ⟨rfl, r, rfl, hq⟩ := hp
  have k := kk r hq H1 L1 ls1 (v_back isC isR hC (v_all hall) hP1) hD hS1 h1
  rw [hz.1, hz.2]
  exact k) H L ls hP hD hS h
theorem v_callVpv (cx : vC p s m args meth c cc nL ret own mn Ts D cy g A) {y : MethodName} {bytes : ByteArray} {maxL index n : Nat} {rt : Option FieldType} {rm : Room} {C : String} {ci q0 b : Nat} {T : u_T} {N0 : Nat} {fs : List Value} {As st : List Value} {wc : va_W} {PQ : Prop} (hM : UC l y bytes maxL rt rm g D cy (.ref b :: As) wc (fun v w => w = wc ∧ v = none ∧ PQ)) (kw : kV own C index y bytes maxL rt n)
    (hR : rm.frames + 1 ≤ R.frames ∧ 8 + (maxL + 11) + rm.locals ≤ R.locals) (hz : rm.cells = 0 ∧ rm.slots = 0) (hf : cells ≤ R.cells ∧ slots ≤ R.slots) (hn : As.length = n) (hst : st = As.reverse ++ .ref b :: rest) (hcat : (rest.map fun v => v.category).sum ≤ 8) (d : decode cc pc = .ok (.invokevirtual index, 3))
    (isC isR : List Nat) (hnd : va_nd isC = true ∧ va_nd isR = true ∧ ∀ i ∈ isR, i ∉ isC) (hall : (List.range ws.length).all (fun i => isC.contains i || isR.contains i) = true) (hC0 : isC.filterMap (fun i => ws[i]?) = wc) (hC : isC.map (fun i => ws[i]?) = wc.map some) (hRr : isR.map (fun i => ws[i]?) = (isR.filterMap (fun i => ws[i]?)).map some) (hb : wc[q0]? = some (b, .inr (ci, fs))) (hcl : vwCl[ci]? = some (C, T, N0))
    (kk : PQ → vV p l e R s m args below meth c Q nL D A (cells) (slots) (ws) (pc + 3) lv (rest)) : vV p l e R s m args below meth c Q nL D A (cells) (slots) (ws) (pc) lv (st) := fun H L ls hP hD hS h => v_callV cx hM kw hR ⟨by rw [hz.1]; exact hf.1, by rw [hz.2]; exact hf.2⟩ hn hst hcat d isC isR hnd hC0 hC hRr hb hcl (fun v w1 hp => by
  intro H1 L1 ls1 hP1 _ hS1 h1
  obtain ⟨rfl, rfl, hq⟩ := hp
  have k := kk hq H1 L1 ls1 (v_back isC isR hC (v_all hall) hP1) hD hS1 h1
  rw [hz.1, hz.2]
  exact k) H L ls hP hD hS h
theorem v_callSpi (cx : vC p s m args meth c cc nL ret own mn Ts D cy g A) {y : MethodName} {bytes : ByteArray} {maxL index n : Nat} {rt : Option FieldType} {rm : Room}  {As st : List Value} {wc : va_W} {PQ : Int32 → Prop} (hM : UC l y bytes maxL rt rm g D cy (As) wc (fun v w => w = wc ∧ ∃ r : Int32, v = some (.int r) ∧ PQ r)) (kw : kS own index y bytes maxL rt n)
    (hR : rm.frames + 1 ≤ R.frames ∧ 8 + (maxL + 11) + rm.locals ≤ R.locals) (hz : rm.cells = 0 ∧ rm.slots = 0) (hf : cells ≤ R.cells ∧ slots ≤ R.slots) (hn : As.length = n) (hst : st = As.reverse ++ rest) (hcat : (rest.map fun v => v.category).sum ≤ 8) (d : decode cc pc = .ok (.invokestatic index, 3))
    (isC isR : List Nat) (hnd : va_nd isC = true ∧ va_nd isR = true ∧ ∀ i ∈ isR, i ∉ isC) (hall : (List.range ws.length).all (fun i => isC.contains i || isR.contains i) = true) (hC0 : isC.filterMap (fun i => ws[i]?) = wc) (hC : isC.map (fun i => ws[i]?) = wc.map some) (hRr : isR.map (fun i => ws[i]?) = (isR.filterMap (fun i => ws[i]?)).map some) 
    (kk : ∀ r : Int32, PQ r → vV p l e R s m args below meth c Q nL D A (cells) (slots) (ws) (pc + 3) lv (.int r :: rest)) : vV p l e R s m args below meth c Q nL D A (cells) (slots) (ws) (pc) lv (st) := fun H L ls hP hD hS h => v_callS cx hM kw hR ⟨by rw [hz.1]; exact hf.1, by rw [hz.2]; exact hf.2⟩ hn hst hcat d isC isR hnd hC0 hC hRr  (fun v w1 hp => by
  intro H1 L1 ls1 hP1 _ hS1 h1
  obtain ⟨rfl, r, rfl, hq⟩ := hp
  have k := kk r hq H1 L1 ls1 (v_back isC isR hC (v_all hall) hP1) hD hS1 h1
  rw [hz.1, hz.2]
  exact k) H L ls hP hD hS h
theorem v_callSpl (cx : vC p s m args meth c cc nL ret own mn Ts D cy g A) {y : MethodName} {bytes : ByteArray} {maxL index n : Nat} {rt : Option FieldType} {rm : Room}  {As st : List Value} {wc : va_W} {PQ : Int64 → Prop} (hM : UC l y bytes maxL rt rm g D cy (As) wc (fun v w => w = wc ∧ ∃ r : Int64, v = some (.long r) ∧ PQ r)) (kw : kS own index y bytes maxL rt n)
    (hR : rm.frames + 1 ≤ R.frames ∧ 8 + (maxL + 11) + rm.locals ≤ R.locals) (hz : rm.cells = 0 ∧ rm.slots = 0) (hf : cells ≤ R.cells ∧ slots ≤ R.slots) (hn : As.length = n) (hst : st = As.reverse ++ rest) (hcat : (rest.map fun v => v.category).sum ≤ 8) (d : decode cc pc = .ok (.invokestatic index, 3))
    (isC isR : List Nat) (hnd : va_nd isC = true ∧ va_nd isR = true ∧ ∀ i ∈ isR, i ∉ isC) (hall : (List.range ws.length).all (fun i => isC.contains i || isR.contains i) = true) (hC0 : isC.filterMap (fun i => ws[i]?) = wc) (hC : isC.map (fun i => ws[i]?) = wc.map some) (hRr : isR.map (fun i => ws[i]?) = (isR.filterMap (fun i => ws[i]?)).map some) 
    (kk : ∀ r : Int64, PQ r → vV p l e R s m args below meth c Q nL D A (cells) (slots) (ws) (pc + 3) lv (.long r :: rest)) : vV p l e R s m args below meth c Q nL D A (cells) (slots) (ws) (pc) lv (st) := fun H L ls hP hD hS h => v_callS cx hM kw hR ⟨by rw [hz.1]; exact hf.1, by rw [hz.2]; exact hf.2⟩ hn hst hcat d isC isR hnd hC0 hC hRr  (fun v w1 hp => by
  intro H1 L1 ls1 hP1 _ hS1 h1
  obtain ⟨rfl, r, rfl, hq⟩ := hp
  have k := kk r hq H1 L1 ls1 (v_back isC isR hC (v_all hall) hP1) hD hS1 h1
  rw [hz.1, hz.2]
  exact k) H L ls hP hD hS h
theorem v_callSpv (cx : vC p s m args meth c cc nL ret own mn Ts D cy g A) {y : MethodName} {bytes : ByteArray} {maxL index n : Nat} {rt : Option FieldType} {rm : Room}  {As st : List Value} {wc : va_W} {PQ : Prop} (hM : UC l y bytes maxL rt rm g D cy (As) wc (fun v w => w = wc ∧ v = none ∧ PQ)) (kw : kS own index y bytes maxL rt n)
    (hR : rm.frames + 1 ≤ R.frames ∧ 8 + (maxL + 11) + rm.locals ≤ R.locals) (hz : rm.cells = 0 ∧ rm.slots = 0) (hf : cells ≤ R.cells ∧ slots ≤ R.slots) (hn : As.length = n) (hst : st = As.reverse ++ rest) (hcat : (rest.map fun v => v.category).sum ≤ 8) (d : decode cc pc = .ok (.invokestatic index, 3))
    (isC isR : List Nat) (hnd : va_nd isC = true ∧ va_nd isR = true ∧ ∀ i ∈ isR, i ∉ isC) (hall : (List.range ws.length).all (fun i => isC.contains i || isR.contains i) = true) (hC0 : isC.filterMap (fun i => ws[i]?) = wc) (hC : isC.map (fun i => ws[i]?) = wc.map some) (hRr : isR.map (fun i => ws[i]?) = (isR.filterMap (fun i => ws[i]?)).map some) 
    (kk : PQ → vV p l e R s m args below meth c Q nL D A (cells) (slots) (ws) (pc + 3) lv (rest)) : vV p l e R s m args below meth c Q nL D A (cells) (slots) (ws) (pc) lv (st) := fun H L ls hP hD hS h => v_callS cx hM kw hR ⟨by rw [hz.1]; exact hf.1, by rw [hz.2]; exact hf.2⟩ hn hst hcat d isC isR hnd hC0 hC hRr  (fun v w1 hp => by
  intro H1 L1 ls1 hP1 _ hS1 h1
  obtain ⟨rfl, rfl, hq⟩ := hp
  have k := kk hq H1 L1 ls1 (v_back isC isR hC (v_all hall) hP1) hD hS1 h1
  rw [hz.1, hz.2]
  exact k) H L ls hP hD hS h
theorem v_callSNpi (cx : vC p s m args meth c cc nL ret own mn Ts D cy g A) {y : MethodName} {bytes : ByteArray} {maxL index n : Nat} {rt : Option FieldType} {rm : Room}  {As st : List Value} {wc : va_W} {PQ : Int32 → Prop} (hM : UC l y bytes maxL rt rm g D cy (As) wc (fun v w => w = wc ∧ ∃ r : Int32, v = some (.int r) ∧ PQ r)) (kw : kSN own index y bytes maxL rt n)
    (hR : rm.frames + 1 ≤ R.frames ∧ 8 + (maxL + 11) + rm.locals ≤ R.locals) (hz : rm.cells = 0 ∧ rm.slots = 0) (hf : cells ≤ R.cells ∧ slots ≤ R.slots) (hn : As.length = n) (hst : st = As.reverse ++ rest) (hcat : (rest.map fun v => v.category).sum ≤ 8) (d : decode cc pc = .ok (.invokestatic index, 3))
    (isC isR : List Nat) (hnd : va_nd isC = true ∧ va_nd isR = true ∧ ∀ i ∈ isR, i ∉ isC) (hall : (List.range ws.length).all (fun i => isC.contains i || isR.contains i) = true) (hC0 : isC.filterMap (fun i => ws[i]?) = wc) (hC : isC.map (fun i => ws[i]?) = wc.map some) (hRr : isR.map (fun i => ws[i]?) = (isR.filterMap (fun i => ws[i]?)).map some) 
    (kk : ∀ r : Int32, PQ r → vV p l e R s m args below meth c Q nL D A (cells) (slots) (ws) (pc + 3) lv (.int r :: rest)) : vV p l e R s m args below meth c Q nL D A (cells) (slots) (ws) (pc) lv (st) := fun H L ls hP hD hS h => v_callSN cx hM kw hR ⟨by rw [hz.1]; exact hf.1, by rw [hz.2]; exact hf.2⟩ hn hst hcat d isC isR hnd hC0 hC hRr  (fun v w1 hp => by
  intro H1 L1 ls1 hP1 _ hS1 h1
  obtain ⟨rfl, r, rfl, hq⟩ := hp
  have k := kk r hq H1 L1 ls1 (v_back isC isR hC (v_all hall) hP1) hD hS1 h1
  rw [hz.1, hz.2]
  exact k) H L ls hP hD hS h
theorem v_callSNpl (cx : vC p s m args meth c cc nL ret own mn Ts D cy g A) {y : MethodName} {bytes : ByteArray} {maxL index n : Nat} {rt : Option FieldType} {rm : Room}  {As st : List Value} {wc : va_W} {PQ : Int64 → Prop} (hM : UC l y bytes maxL rt rm g D cy (As) wc (fun v w => w = wc ∧ ∃ r : Int64, v = some (.long r) ∧ PQ r)) (kw : kSN own index y bytes maxL rt n)
    (hR : rm.frames + 1 ≤ R.frames ∧ 8 + (maxL + 11) + rm.locals ≤ R.locals) (hz : rm.cells = 0 ∧ rm.slots = 0) (hf : cells ≤ R.cells ∧ slots ≤ R.slots) (hn : As.length = n) (hst : st = As.reverse ++ rest) (hcat : (rest.map fun v => v.category).sum ≤ 8) (d : decode cc pc = .ok (.invokestatic index, 3))
    (isC isR : List Nat) (hnd : va_nd isC = true ∧ va_nd isR = true ∧ ∀ i ∈ isR, i ∉ isC) (hall : (List.range ws.length).all (fun i => isC.contains i || isR.contains i) = true) (hC0 : isC.filterMap (fun i => ws[i]?) = wc) (hC : isC.map (fun i => ws[i]?) = wc.map some) (hRr : isR.map (fun i => ws[i]?) = (isR.filterMap (fun i => ws[i]?)).map some) 
    (kk : ∀ r : Int64, PQ r → vV p l e R s m args below meth c Q nL D A (cells) (slots) (ws) (pc + 3) lv (.long r :: rest)) : vV p l e R s m args below meth c Q nL D A (cells) (slots) (ws) (pc) lv (st) := fun H L ls hP hD hS h => v_callSN cx hM kw hR ⟨by rw [hz.1]; exact hf.1, by rw [hz.2]; exact hf.2⟩ hn hst hcat d isC isR hnd hC0 hC hRr  (fun v w1 hp => by
  intro H1 L1 ls1 hP1 _ hS1 h1
  obtain ⟨rfl, r, rfl, hq⟩ := hp
  have k := kk r hq H1 L1 ls1 (v_back isC isR hC (v_all hall) hP1) hD hS1 h1
  rw [hz.1, hz.2]
  exact k) H L ls hP hD hS h
theorem v_callSNpv (cx : vC p s m args meth c cc nL ret own mn Ts D cy g A) {y : MethodName} {bytes : ByteArray} {maxL index n : Nat} {rt : Option FieldType} {rm : Room}  {As st : List Value} {wc : va_W} {PQ : Prop} (hM : UC l y bytes maxL rt rm g D cy (As) wc (fun v w => w = wc ∧ v = none ∧ PQ)) (kw : kSN own index y bytes maxL rt n)
    (hR : rm.frames + 1 ≤ R.frames ∧ 8 + (maxL + 11) + rm.locals ≤ R.locals) (hz : rm.cells = 0 ∧ rm.slots = 0) (hf : cells ≤ R.cells ∧ slots ≤ R.slots) (hn : As.length = n) (hst : st = As.reverse ++ rest) (hcat : (rest.map fun v => v.category).sum ≤ 8) (d : decode cc pc = .ok (.invokestatic index, 3))
    (isC isR : List Nat) (hnd : va_nd isC = true ∧ va_nd isR = true ∧ ∀ i ∈ isR, i ∉ isC) (hall : (List.range ws.length).all (fun i => isC.contains i || isR.contains i) = true) (hC0 : isC.filterMap (fun i => ws[i]?) = wc) (hC : isC.map (fun i => ws[i]?) = wc.map some) (hRr : isR.map (fun i => ws[i]?) = (isR.filterMap (fun i => ws[i]?)).map some) 
    (kk : PQ → vV p l e R s m args below meth c Q nL D A (cells) (slots) (ws) (pc + 3) lv (rest)) : vV p l e R s m args below meth c Q nL D A (cells) (slots) (ws) (pc) lv (st) := fun H L ls hP hD hS h => v_callSN cx hM kw hR ⟨by rw [hz.1]; exact hf.1, by rw [hz.2]; exact hf.2⟩ hn hst hcat d isC isR hnd hC0 hC hRr  (fun v w1 hp => by
  intro H1 L1 ls1 hP1 _ hS1 h1
  obtain ⟨rfl, rfl, hq⟩ := hp
  have k := kk hq H1 L1 ls1 (v_back isC isR hC (v_all hall) hP1) hD hS1 h1
  rw [hz.1, hz.2]
  exact k) H L ls hP hD hS h
theorem v_copyi (cx : vC p s m args meth c cc nL ret own mn Ts D cy g A) {index a0 a n0 n1 : Nat} {f f2 : Nat → Int32} {sp dp n : Int32} {ws' : va_W} (hl : Cond.methodLink own index arraycopyName ∈ wALL) (d : decode cc pc = .ok (.invokestatic index, 3)) (q0 q1 : Nat) (ha0 : ws[q0]? = some (a0, .inl (cy 0, n0, .inl f))) (ha1 : ws[q1]? = some (a, .inl (cy 0, n1, .inl f2))) (h1 : ¬ sp < 0) (h2 : ¬ dp < 0) (h3 : ¬ n < 0) (h4 : sp.toNatClampNeg + n.toNatClampNeg ≤ n0) (h5 : dp.toNatClampNeg + n.toNatClampNeg ≤ n1) (hfr : 1 ≤ R.frames) (hlo : (rest.map fun v => v.category).sum + (nativeFrameWords "java/lang/System" "arraycopy" 5 + 11) ≤ R.locals)
    (hw : ws.set q1 (a, .inl (cy 0, n1, .inl (va_cpy f f2 sp.toNatClampNeg dp.toNatClampNeg n.toNatClampNeg))) = ws') (k : vV p l e R s m args below meth c Q nL D A (cells) (slots) (ws') (pc + 3) lv (rest)) : vV p l e R s m args below meth c Q nL D A (cells) (slots) (ws) (pc) lv (.int n :: .int dp :: .ref a :: .int sp :: .ref a0 :: rest) := fun H L ls hP hD hS h => va_copyi cx.x cx.b (by rw [cx.ml]; exact h.1.symm) cx.ow (cx.w hl) (cx.w wN_arraycopy) (cx.w wS_arraycopy) (cx.w wInit_java_lang_System) cx.k hP hD hS q0 q1 0 0 ha0 ha1 rfl rfl rfl h1 h2 h3 h4 h5 (fun _ _ => rfl) hfr hlo d (fun H1 L1 hP hD hS => k H1 L1 ls (hw ▸ hP) (hw ▸ hD) hS h)
theorem v_copyl (cx : vC p s m args meth c cc nL ret own mn Ts D cy g A) {index a0 a n0 n1 : Nat} {f f2 : Nat → Int64} {sp dp n : Int32} {ws' : va_W} (hl : Cond.methodLink own index arraycopyName ∈ wALL) (d : decode cc pc = .ok (.invokestatic index, 3)) (q0 q1 : Nat) (ha0 : ws[q0]? = some (a0, .inl (cy 1, n0, .inr (.inl f)))) (ha1 : ws[q1]? = some (a, .inl (cy 1, n1, .inr (.inl f2)))) (h1 : ¬ sp < 0) (h2 : ¬ dp < 0) (h3 : ¬ n < 0) (h4 : sp.toNatClampNeg + n.toNatClampNeg ≤ n0) (h5 : dp.toNatClampNeg + n.toNatClampNeg ≤ n1) (hfr : 1 ≤ R.frames) (hlo : (rest.map fun v => v.category).sum + (nativeFrameWords "java/lang/System" "arraycopy" 5 + 11) ≤ R.locals)
    (hw : ws.set q1 (a, .inl (cy 1, n1, .inr (.inl (va_cpy f f2 sp.toNatClampNeg dp.toNatClampNeg n.toNatClampNeg)))) = ws') (k : vV p l e R s m args below meth c Q nL D A (cells) (slots) (ws') (pc + 3) lv (rest)) : vV p l e R s m args below meth c Q nL D A (cells) (slots) (ws) (pc) lv (.int n :: .int dp :: .ref a :: .int sp :: .ref a0 :: rest) := fun H L ls hP hD hS h => va_copyl cx.x cx.b (by rw [cx.ml]; exact h.1.symm) cx.ow (cx.w hl) (cx.w wN_arraycopy) (cx.w wS_arraycopy) (cx.w wInit_java_lang_System) cx.k hP hD hS q0 q1 1 1 ha0 ha1 rfl rfl rfl h1 h2 h3 h4 h5 (fun _ _ => rfl) hfr hlo d (fun H1 L1 hP hD hS => k H1 L1 ls (hw ▸ hP) (hw ▸ hD) hS h)
end VC2
/-- four references in a row -/
def ga4 (a b c d : Nat) : Nat → Option Nat := fun j => if j = 0 then some a else if j = 1 then some b else if j = 2 then some c else if j = 3 then some d else none
theorem ga4_0 {a b c d x : Nat} : va_up (ga4 a b c d) 0 (some x) = ga4 x b c d := by funext j; by_cases h : j = 0 <;> simp [va_up, ga4, h]
theorem ga4_1 {a b c d x : Nat} : va_up (ga4 a b c d) 1 (some x) = ga4 a x c d := by funext j; by_cases h : j = 1 <;> simp [va_up, ga4, h]
theorem ga4_2 {a b c d x : Nat} : va_up (ga4 a b c d) 2 (some x) = ga4 a b x d := by funext j; by_cases h : j = 2 <;> simp [va_up, ga4, h]
theorem ga4_3 {a b c d x : Nat} : va_up (ga4 a b c d) 3 (some x) = ga4 a b c x := by funext j; by_cases h : j = 3 <;> simp [va_up, ga4, h]
theorem ga4_mk {a b c d : Nat} : va_up (va_up (va_up (va_up (fun _ => none) 0 (some a)) 1 (some b)) 2 (some c)) 3 (some d) = ga4 a b c d := by
  funext j
  unfold va_up ga4
  by_cases h0 : j = 0
  · subst h0; rfl
  by_cases h1 : j = 1
  · subst h1; rfl
  by_cases h2 : j = 2
  · subst h2; rfl
  by_cases h3 : j = 3
  · subst h3; rfl
  simp [h0, h1, h2, h3]
theorem vp_in4 {i : Int32} (h : vp_in i 4) : i = 0 ∨ i = 1 ∨ i = 2 ∨ i = 3 := by
  obtain ⟨j, hj, rfl⟩ := vp_in_of h (by decide)
  have : j = 0 ∨ j = 1 ∨ j = 2 ∨ j = 3 := by omega
  rcases this with rfl | rfl | rfl | rfl
  · exact Or.inl rfl
  · exact Or.inr (Or.inl rfl)
  · exact Or.inr (Or.inr (Or.inl rfl))
  · exact Or.inr (Or.inr (Or.inr rfl))

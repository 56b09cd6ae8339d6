def uXQ (D : va_G) (A : Nat → Prop) (PostX : String → va_W → Prop) : String → State → State → Prop := fun E st t => (∃ w1, PostX E w1 ∧ va_P D vwCl w1 t.heap ∧ va_D A w1) ∧ va_F A st t
/-- a contract of a method that returns or throws -/
def UX (l : Launch) (y : MethodName) (cc : ByteArray) (nL : Nat) (ret : Option FieldType) (rm : Room) (g : gT) (D : va_G) (cy : Nat → ClassId) (av : List Value) (wc : va_W) (Post : Option Value → va_W → Prop) (PostX : String → va_W → Prop) : Prop :=
  ∀ sz : Nat, vx_Met l y (.code y cc nL ret :: wALL) rm (uPc g D cy av wc sz) (uQ D (va_A wc sz) Post) (uXQ D (va_A wc sz) PostX) rm.cells rm.slots (va_A wc sz)
/-- a contract of a method with handlers of its own, that returns -/
def UW (l : Launch) (y : MethodName) (cc : ByteArray) (nL : Nat) (ret : Option FieldType) (hh : List (Nat × Nat × Nat × Nat)) (rm : Room) (g : gT) (D : va_G) (cy : Nat → ClassId) (av : List Value) (wc : va_W) (Post : Option Value → va_W → Prop) : Prop :=
  ∀ sz : Nat, Met l y (.codeWith y cc nL ret hh :: wALL) rm (uPc g D cy av wc sz) (uQ D (va_A wc sz) Post) rm.cells rm.slots (va_A wc sz)
theorem UX_of {l : Launch} {y : MethodName} {cc : ByteArray} {nL : Nat} {ret : Option FieldType} {rm : Room} {g : gT} {D : va_G} {cy : Nat → ClassId} {av : List Value} {wc : va_W} {Post : Option Value → va_W → Prop} {PostX : String → va_W → Prop} (hy : plainName y.cls = true) (hn : (lg_sl av).length ≤ nL) (lv : List (Nat × Value)) (hlv : lv_args 0 av = lv)
    (body : ∀ (p : Program) (e : Env) (s : State) (m : MethodId) (args : Array Value) (below : List Frame) (meth : Method) (c : Code) (A : Nat → Prop), vC p s m args meth c cc nL ret y.cls y.name (.code y cc nL ret :: wALL) D cy g A → (∀ x ∈ c.exceptionTable.toList, False) → vV p l e rm s m args below meth c (vx_MQ below (uQ D A Post) (uXQ D A PostX) args s rm.cells rm.slots A) nL D A 0 0 wc 0 lv []) : UX l y cc nL ret rm g D cy av wc Post PostX := by
  subst hlv
  intro sz
  refine vx_ofW (cc := cc) (maxL := nL) (ret := ret) hy rfl ?_
  intro p e s m args below meth c s₁ B hml hex hv
  obtain ⟨rfl, hsz, hP, hK, hD0, hG, hW⟩ := hv
  subst hsz
  have hts := atoms_spec (ws := .code y cc nL ret :: wALL) B.pre
  have hl := lv_entry av (n := nL) hn
  rw [lg_entry_eq]
  exact body p e s m _ below meth c (va_A wc s.heap.size) ⟨B.exec, B.bytes, hml, findClass_of_methodNamed B.named, hts, fun w h => List.mem_cons_of_mem _ h, hK, hG, hW, fun q h => Or.inr h, B.returns, B.notSynchronized, (name_of_methodNamed B.named B.method).1⟩ hex s.heap [] _ hP (hD0.self (sz := s.heap.size)) va_S.rf hl
theorem UW_of {l : Launch} {y : MethodName} {cc : ByteArray} {nL : Nat} {ret : Option FieldType} {hh : List (Nat × Nat × Nat × Nat)} {rm : Room} {g : gT} {D : va_G} {cy : Nat → ClassId} {av : List Value} {wc : va_W} {Post : Option Value → va_W → Prop} (hy : plainName y.cls = true) (hn : (lg_sl av).length ≤ nL) (lv : List (Nat × Value)) (hlv : lv_args 0 av = lv)
    (body : ∀ (p : Program) (e : Env) (s : State) (m : MethodId) (args : Array Value) (below : List Frame) (meth : Method) (c : Code) (A : Nat → Prop), vC p s m args meth c cc nL ret y.cls y.name (.codeWith y cc nL ret hh :: wALL) D cy g A → c.exceptionTable.toList = tableOf hh → vV p l e rm s m args below meth c (MQ below (uQ D A Post) args s rm.cells rm.slots A) nL D A 0 0 wc 0 lv []) : UW l y cc nL ret hh rm g D cy av wc Post := by
  subst hlv
  intro sz
  refine va_MetW (cc := cc) (maxL := nL) (ret := ret) (hh := hh) hy rfl ?_
  intro p e s m args below meth c s₁ B hml hv
  obtain ⟨rfl, hsz, hP, hK, hD0, hG, hW⟩ := hv
  subst hsz
  have hts := atoms_spec (ws := .codeWith y cc nL ret hh :: wALL) B.pre
  have htb := vx_table (x := y) B (hts _ List.mem_cons_self)
  have hl := lv_entry av (n := nL) hn
  rw [lg_entry_eq]
  exact body p e s m _ below meth c (va_A wc s.heap.size) ⟨B.exec, B.bytes, hml, findClass_of_methodNamed B.named, hts, fun w h => List.mem_cons_of_mem _ h, hK, hG, hW, fun q h => Or.inr h, B.returns, B.notSynchronized, (name_of_methodNamed B.named B.method).1⟩ htb s.heap [] _ hP (hD0.self (sz := s.heap.size)) va_S.rf hl
def kT (own : String) (ik ic : Nat) (cls : String) (names : List String) : Prop := Cond.classLink own ik cls ∈ wALL ∧ Cond.initialized cls ∈ wALL ∧ (∀ w ∈ vx_atS own ic cls names, w ∈ wALL ∨ w ∈ gOT) ∧ (∀ w ∈ Cond.classLink own ik cls :: Cond.initialized cls :: vx_atS own ic cls names, vx_ot w = true) ∧ Bundle.fit cls = true ∧ ∀ n ∈ names, Bundle.fit n = true
def kW (own : String) (index : Nat) (y : MethodName) (bytes : ByteArray) (maxL : Nat) (ret : Option FieldType) (hh : List (Nat × Nat × Nat × Nat)) (n : Nat) : Prop := Cond.methodLink own index y ∈ wALL ∧ Cond.static y ∈ wALL ∧ Cond.initialized y.cls ∈ wALL ∧ Cond.codeWith y bytes maxL ret hh ∈ wALL ∧ (y.cls ≠ "java/lang/invoke/MethodHandle" ∧ y.cls ≠ "java/lang/invoke/VarHandle" ∧ (parseMethodDescriptor y.desc).map (fun d => d.parameters.length) = some n)
section VC3
variable {p : Program} {l : Launch} {e : Env} {R : Room} {s : State} {m : MethodId} {args : Array Value} {below : List Frame} {meth : Method} {c : Code} {cells slots : Nat} {Q : State → Prop} {cc : ByteArray} {nL : Nat} {ret : Option FieldType} {own mn : String} {Ts : List Cond} {D : va_G} {cy : Nat → ClassId} {g : gT} {A : Nat → Prop} {ws : va_W} {pc : Nat} {lv : List (Nat × Value)} {rest : List Value}
/-- the end of a path that returns, in a method that may throw -/
theorem v_x {Qc : Array Value → State → Outcome → State → Prop} {XC : String → State → State → Prop} {st : List Value} {mc ms : Nat} (h1 : cells ≤ mc) (h2 : slots ≤ ms) (k : vV p l e R s m args below meth c (MQ below Qc args s mc ms A) nL D A (mc) (ms) (ws) (pc) lv (st)) : vV p l e R s m args below meth c (vx_MQ below Qc XC args s mc ms A) nL D A (cells) (slots) (ws) (pc) lv (st) := fun H L ls hP hD hS h => vx_ret (W.widen h1 h2 (k H L ls hP hD hS h))
theorem v_throwS (cx : vC p s m args meth c cc nL ret own mn Ts D cy g A) (hexc : ∀ x ∈ c.exceptionTable.toList, False) (hl : l.stackTraces = false) {cls text : String} {names : List String} {ik is ic mc ms : Nat} {Post : Option Value → va_W → Prop} {PostX : String → va_W → Prop} (kt : kT own ik ic cls names) (hs : (own, is, text) ∈ gST)
    (d0 : decode cc pc = .ok (.new ik, 3)) (d3 : decode cc (pc + 3) = .ok (.dup, 1)) (d4 : decode cc (pc + 4) = .ok (.ldc is, 2)) (d6 : decode cc (pc + 6) = .ok (.invokespecial ic, 3)) (d9 : decode cc (pc + 9) = .ok (.athrow, 1))
    (hR : names.length + 3 < R.frames ∧ (rest.map fun v => v.category).sum + (13 * (names.length + 1) + 43) ≤ R.locals ∧ cells + 1 ≤ R.cells ∧ slots + 6 ≤ R.slots) (hm : cells + 1 ≤ mc ∧ slots + 6 ≤ ms) (hp : PostX cls ws) : vV p l e R s m args below meth c (vx_MQ below (uQ D A Post) (uXQ D A PostX) args s mc ms A) nL D A (cells) (slots) (ws) (pc) lv (rest) := fun H L ls hP hD hS h => by
  obtain ⟨k1, k2, k3, k4, k5, k6⟩ := kt
  refine vx_throwS cx.x cx.b hl cx.ow k5 k6 (cx.w k1) (cx.w k2) (cx.gw.2.2.1 _ hs) (fun w hw => (k3 w hw).elim cx.w (fun q => cx.gw.ot q)) k4 cx.gh.2.2.1 cx.gh.2.2.2 hS (by rw [cx.ml]; exact h.1) d0 d3 d4 d6 d9 (fun x hx => (hexc x hx).elim) hR.1 hR.2.1 hR.2.2.1 hR.2.2.2 cx.lo ?_ hS.2.2 hm.1 hm.2
  intro t ht hz hk
  exact ⟨⟨ws, hp, hP.kept (fun k q hq => hk q.1 (hP k q hq).lt), hD⟩, Nat.le_trans hS.1 hz, fun q h1 h2 => by rw [hk q (Nat.lt_of_lt_of_le h1 hS.1)]; exact hS.2.1 q h1 h2⟩
/-- something of class E has been thrown at pc -/
def vE (p : Program) (l : Launch) (e : Env) (R : Room) (s : State) (m : MethodId) (args : Array Value) (below : List Frame) (meth : Method) (c : Code) (Q : State → Prop) (nL : Nat) (D : va_G) (A : Nat → Prop) (cells slots : Nat) (ws : va_W) (pc : Nat) (lv : List (Nat × Value)) (st : List Value) (E : String) : Prop :=
  ∀ (H : Heap) (locs : List Loc) (ls : Array Slot) (q : Nat) (ce : Cell), va_P D vwCl ws H → va_D A ws → va_S A s.heap H locs → lv_has ls nL lv → H[q]? = some ce → ce.vm = .none → s.vm.findClass E = some ce.cls → vx_W p l e R s m args below meth c H locs cells slots Q (F0 m pc ls st) q
theorem v_catch (cx : vC p s m args meth c cc nL ret own mn Ts D cy g A) {hh : List (Nat × Nat × Nat × Nat)} (htb : c.exceptionTable.toList = tableOf hh) {E name : String} (pre : List (Nat × Nat × Nat × Nat)) (x : Nat × Nat × Nat × Nat) (suf : List (Nat × Nat × Nat × Nat)) (hsp : hh = pre ++ x :: suf) (hpass : ∀ z ∈ pre, z.2.2.2 ≠ 0 ∧ ∃ nm : String, Cond.classLink own z.2.2.2 nm ∈ wALL ∧ (E, nm) ∈ gNC) (hx : covers ⟨x.1, x.2.1, x.2.2.1, x.2.2.2⟩ pc = true) (h0 : x.2.2.2 ≠ 0) (hlink : Cond.classLink own x.2.2.2 name ∈ wALL) (hcast : Cond.castable E name ∈ gOT) (k : ∀ q : Nat, vV p l e R s m args below meth c Q nL D A (cells) (slots) (ws) (x.2.2.1) lv ([.ref q])) : vE p l e R s m args below meth c Q nL D A cells slots ws pc lv rest E := fun H L ls q ce hP hD hS h h1 h2 h3 => by
  refine vx_catch (own := own) (name := name) cx.ow (tableOf pre) ⟨x.1, x.2.1, x.2.2.1, x.2.2.2⟩ (tableOf suf) (by rw [htb, hsp]; simp [tableOf]) ?_ hx h0 (cx.w hlink) (cx.gw.ot hcast) h1 h2 h3 (k q H L ls hP hD hS h)
  intro z hz
  obtain ⟨z0, hz0, rfl⟩ := List.mem_map.mp hz
  obtain ⟨a, nm, b, b2⟩ := hpass z0 hz0
  exact Or.inr ⟨a, nm, cx.w b, cx.gw.2.2.2.1 _ b2⟩
/-- a call that may throw -/
theorem v_callVX (cx : vC p s m args meth c cc nL ret own mn Ts D cy g A) {y : MethodName} {bytes : ByteArray} {maxL index n ci q0 b : Nat} {rt : Option FieldType} {rm : Room} {C : String} {T : u_T} {N : Nat} {fs As st : List Value} {wc : va_W} {Post : Option Value → va_W → Prop} {PostX : String → va_W → Prop} (hM : UX l y bytes maxL rt rm g D cy (.ref b :: As) wc Post PostX) (kw : kV own C index y bytes maxL rt n)
    (hR : rm.frames + 1 ≤ R.frames ∧ 8 + (maxL + 11) + rm.locals ≤ R.locals) (hf : cells + rm.cells ≤ R.cells ∧ slots + rm.slots ≤ R.slots) (hn : As.length = n) (hst : st = As.reverse ++ .ref b :: rest) (hcat : (rest.map fun v => v.category).sum ≤ 8) (d : decode cc pc = .ok (.invokevirtual index, 3))
    (isC isR : List Nat) (hnd : va_nd isC = true ∧ va_nd isR = true ∧ ∀ i ∈ isR, i ∉ isC) (hC0 : isC.filterMap (fun i => ws[i]?) = wc) (hC : isC.map (fun i => ws[i]?) = wc.map some) (hRr : isR.map (fun i => ws[i]?) = (isR.filterMap (fun i => ws[i]?)).map some) (hb : wc[q0]? = some (b, .inr (ci, fs))) (hcl : vwCl[ci]? = some (C, T, N))
    (kx : ∀ (E : String) (w1 : va_W), PostX E w1 → vE p l e R s m args below meth c Q nL D A (cells + rm.cells) (slots + rm.slots) (isR.filterMap (fun i => ws[i]?) ++ w1) pc lv rest E) (kk : ∀ (v : Option Value) (w1 : va_W), Post v w1 → vV p l e R s m args below meth c Q nL D A (cells + rm.cells) (slots + rm.slots) (isR.filterMap (fun i => ws[i]?) ++ w1) (pc + 3) lv (v.toList ++ rest)) : vV p l e R s m args below meth c Q nL D A (cells) (slots) (ws) (pc) lv (st) := fun H L ls hP hD hS h => by
  subst hst
  intro T0 hT X
  have hF := va_free hD hS cx.a isC hC
  rcases vx_runV (As := As) (rest := rest) ⟨cx.x, cx.b, cx.ml, cx.ow, cx.ts⟩ (hM H.size) (cwV n cx.ts (wG_V cx.wl kw.1 kw.2.1 kw.2.2.1 kw.2.2.2.1 kw.2.2.2.2.1) rfl rfl rfl kw.2.2.2.2.2 hR) ⟨uPc_blind, va_recv cx.k (hP.sub isC hC0) hcl hb, v_here cx hP hD hS isC hnd.1 hC0 hC⟩ rfl hn h.1 rfl (lv_room hcat) d hf T0 hT X with ⟨v, st₀, t, T', L', h0, X', hL, e1, e2, ⟨⟨v', w1, hv, hp, hP1, hD1⟩, hF1⟩, st⟩ | ⟨q, st₀, t, T', L', E, ce, h0, X', hL, e1, e2, ⟨⟨w1, hp, hP1, hD1⟩, hF1⟩, hce, hcv, hcl1, st⟩
  · cases hv
    obtain ⟨k1, k2, k3⟩ := vx_keep h0 e1 hS (fun q _ z => hF q z) hF hL hF1
    have hj := va_join hP hD isC isR hC hRr hnd.2.1 hnd.2.2 (H1 := T'.heap) k2 hF (by rw [e1]; exact hP1) hD1
    obtain ⟨t2, a1, b1⟩ := kk v w1 hp T'.heap (L ++ L') ls hj.1 hj.2 k3 h T' rfl X'
    exact ⟨t2, st t2 a1, b1⟩
  · obtain ⟨k1, k2, k3⟩ := vx_keep h0 e1 hS (fun q _ z => hF q z) hF hL hF1
    have hj := va_join hP hD isC isR hC hRr hnd.2.1 hnd.2.2 (H1 := T'.heap) k2 hF (by rw [e1]; exact hP1) hD1
    obtain ⟨t2, a1, b1⟩ := kx E w1 hp T'.heap (L ++ L') ls q ce hj.1 hj.2 k3 h (by rw [e1]; exact hce) hcv hcl1 T' rfl X'
    exact ⟨t2, st.trans a1, b1⟩
theorem v_permE {ws' : va_W} {st : List Value} {E : String} {ce sl : Nat} (is : List Nat) (hn : va_nd is = true) (hs : is.filterMap (fun i => ws[i]?) = ws') (hm : is.map (fun i => ws[i]?) = ws'.map some) (hc : cells = ce ∧ slots = sl) (k : vE p l e R s m args below meth c Q nL D A ce sl ws' pc lv st E) : vE p l e R s m args below meth c Q nL D A cells slots ws pc lv st E := by
  obtain ⟨rfl, rfl⟩ := hc
  exact fun H L ls q ce hP hD hS h => k H L ls q ce (hP.sub is hs) (hD.sub is hn hm) hS h
/-- a static call of a method with handlers -/
theorem v_callSW (cx : vC p s m args meth c cc nL ret own mn Ts D cy g A) {y : MethodName} {bytes : ByteArray} {maxL index n : Nat} {rt : Option FieldType} {hh : List (Nat × Nat × Nat × Nat)} {rm : Room} {As st : List Value} {wc : va_W} {Post : Option Value → va_W → Prop} (hM : UW l y bytes maxL rt hh rm g D cy As wc Post) (kw : kW own index y bytes maxL rt hh n)
    (hR : rm.frames + 1 ≤ R.frames ∧ 8 + (maxL + 11) + rm.locals ≤ R.locals) (hf : cells + rm.cells ≤ R.cells ∧ slots + rm.slots ≤ R.slots) (hn : As.length = n) (hst : st = As.reverse ++ rest) (hcat : (rest.map fun v => v.category).sum ≤ 8) (d : decode cc pc = .ok (.invokestatic index, 3))
    (isC isR : List Nat) (hnd : va_nd isC = true ∧ va_nd isR = true ∧ ∀ i ∈ isR, i ∉ isC) (hC0 : isC.filterMap (fun i => ws[i]?) = wc) (hC : isC.map (fun i => ws[i]?) = wc.map some) (hRr : isR.map (fun i => ws[i]?) = (isR.filterMap (fun i => ws[i]?)).map some)
    (kk : ∀ (v : Option Value) (w1 : va_W), Post v w1 → vV p l e R s m args below meth c Q nL D A (cells + rm.cells) (slots + rm.slots) (isR.filterMap (fun i => ws[i]?) ++ w1) (pc + 3) lv (v.toList ++ rest)) : vV p l e R s m args below meth c Q nL D A (cells) (slots) (ws) (pc) lv (st) := fun H L ls hP hD hS h => by
  subst hst
  exact v_ran cx hP hD hS h isC isR hC hRr hnd.2.1 hnd.2.2 (vx_runSW (As := As) (rest := rest) ⟨cx.x, cx.b, cx.ml, cx.ow, cx.ts⟩ (hM H.size) (vx_cwSW n cx.ts (wG_S cx.wl kw.1 kw.2.1 kw.2.2.1 kw.2.2.2.1) rfl rfl rfl kw.2.2.2.2 hR) ⟨uPc_blind, v_here cx hP hD hS isC hnd.1 hC0 hC⟩ rfl hn h.1 rfl (lv_room hcat) d hf) kk
theorem v_is {ws' : va_W} {st : List Value} (hw : ws = ws') (k : vV p l e R s m args below meth c Q nL D A (cells) (slots) (ws') (pc) lv (st)) : vV p l e R s m args below meth c Q nL D A (cells) (slots) (ws) (pc) lv (st) := hw ▸ k
/-- new objects and rows -/
theorem v_new (cx : vC p s m args meth c cc nL ret own mn Ts D cy g A) {C : String} {T : u_T} {N ci index : Nat} (hin : ∀ w ∈ u_ws C T N, w ∈ wALL) (ty : Nat → FieldType) (hty : ∀ k, k < N → parseFieldDescriptor (T k).2.2.1 = some (ty k)) (hcl : Cond.classLink own index C ∈ wALL) (hinst : Cond.instantiable C N ∈ wALL) (hini : Cond.initialized C ∈ wALL) (hc : vwCl[ci]? = some (C, T, N)) {fs : List Value} (hfs : ∀ j, j < N → defaultValue (ty j) = vp_V fs j) {ce sl : Nat} (he : cells + 1 = ce ∧ slots + N = sl) (hcells : cells + 1 ≤ R.cells) (hslots : slots + N ≤ R.slots) (d : decode cc pc = .ok (.new index, 3))
    (kk : ∀ q : Nat, vV p l e R s m args below meth c Q nL D A (ce) (sl) (ws ++ [(q, .inr (ci, fs))]) (pc + 3) lv (.ref q :: rest)) : vV p l e R s m args below meth c Q nL D A (cells) (slots) (ws) (pc) lv (rest) := fun H L ls hP hD hS h => by
  obtain ⟨rfl, rfl⟩ := he
  exact va_new cx.x cx.b cx.ts (fun w hw => cx.wl w (hin w hw)) ty hty cx.ow (cx.w hcl) (cx.w hinst) (cx.w hini) cx.k hP hD hS cx.a hc hfs hcells hslots d (fun q H1 hP hD hS => kk q H1 L ls hP hD hS h)
theorem v_newa (cx : vC p s m args meth c cc nL ret own mn Ts D cy g A) {atype : ArrayType} (harr : Cond.arrayClass (newarray.typeOf atype) ∈ wALL) (k0 : Nat) {ty : FieldType} (hk : (gTy cy)[k0]? = some (cy k0, ty)) (hty : newarray.typeOf atype = ty) (hprim : ∀ U cA, va_RA U cA ty → U.vm.findClass ("[" ++ ty.toString) = some cA) {n : Int32} {N' : Nat} {a0 : vp_A} (ha : ∀ cA : ClassId, vp_cell cA a0 = arrV cA N' (fun _ => defaultValue ty)) (hn : ¬ n < 0) (hN : n.toNatClampNeg = N') (hbytes : N' * componentBytes ty ≤ 536870912) {ce sl : Nat} (he : cells + 1 = ce ∧ slots + N' = sl) (hcells : cells + 1 ≤ R.cells) (hslots : slots + N' ≤ R.slots) (d : decode cc pc = .ok (.newarray atype, 2))
    (kk : ∀ q : Nat, vV p l e R s m args below meth c Q nL D A (ce) (sl) (ws ++ [(q, .inl (cy k0, a0))]) (pc + 2) lv (.ref q :: rest)) : vV p l e R s m args below meth c Q nL D A (cells) (slots) (ws) (pc) lv (.int n :: rest) := fun H L ls hP hD hS h => by
  obtain ⟨rfl, rfl⟩ := he
  refine va_newa cx.x cx.b (cx.w harr) hty cx.k hP hD hS cx.a ha hn hN hbytes hcells hslots d (fun q cA H1 hK hP hD hS => ?_)
  have h1 := hprim s cA (hK.2 (gTy cy).length (cA, ty) (by simp)).2
  have h2 := hprim s (cy k0) (cx.k.2 k0 _ hk).2
  cases Option.some.inj (h1.symm.trans h2)
  exact kk q H1 L ls hP hD hS h
theorem v_newq (cx : vC p s m args meth c cc nL ret own mn Ts D cy g A) {index : Nat} (hcl : Cond.classLink own index RX3 ∈ wALL) {n : Int32} {N' : Nat} (hn : ¬ n < 0) (hN : n.toNatClampNeg = N') (hbytes : N' * 4 ≤ 536870912) {ce sl : Nat} (he : cells + 1 = ce ∧ slots + N' = sl) (hcells : cells + 1 ≤ R.cells) (hslots : slots + N' ≤ R.slots) (d : decode cc pc = .ok (.anewarray index, 3))
    (kk : ∀ q : Nat, vV p l e R s m args below meth c Q nL D A (ce) (sl) (ws ++ [(q, .inl (cy 4, N', .inr (.inr (.inr (.inr (fun _ => none))))))]) (pc + 3) lv (.ref q :: rest)) : vV p l e R s m args below meth c Q nL D A (cells) (slots) (ws) (pc) lv (.int n :: rest) := fun H L ls hP hD hS h => by
  obtain ⟨rfl, rfl⟩ := he
  refine va_newq cx.x cx.b cx.ow (cx.w hcl) cx.gw.ao cx.k hP hD hS cx.a hn hN hbytes hcells hslots d (fun q cA H1 hK hP hD hS => ?_)
  have h1 := (hK.2 (gTy cy).length (cA, .object RX3) (by simp)).2
  have h2 := (cx.k.2 4 (cy 4, .object RX3) rfl).2
  obtain ⟨_, _, _, _, _, h1⟩ := h1
  obtain ⟨_, _, _, _, _, h2⟩ := h2
  cases Option.some.inj (h1.symm.trans h2)
  exact kk q H1 L ls hP hD hS h
theorem gprim_i : ∀ (U : State) (cA : ClassId), va_RA U cA .int → U.vm.findClass ("[" ++ (FieldType.int).toString) = some cA := fun _ _ h => h
theorem gprim_l : ∀ (U : State) (cA : ClassId), va_RA U cA .long → U.vm.findClass ("[" ++ (FieldType.long).toString) = some cA := fun _ _ h => h
theorem gprim_b : ∀ (U : State) (cA : ClassId), va_RA U cA .byte → U.vm.findClass ("[" ++ (FieldType.byte).toString) = some cA := fun _ _ h => h
theorem gprim_z : ∀ (U : State) (cA : ClassId), va_RA U cA .boolean → U.vm.findClass ("[" ++ (FieldType.boolean).toString) = some cA := fun _ _ h => h
end VC3

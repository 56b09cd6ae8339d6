/-! the new desk, low, lot -/
def M00 : Nat → Nat := fun j => if j = 1 then 1 else 0
theorem M00_1 : M00 1 = 1 := rfl
theorem M00_o {j : Nat} (h : j ≠ 1) : M00 j = 0 := if_neg h
theorem M00_WF : WF M00 := ⟨Nat.zero_le _, fun l hl => by rw [M00_o (by omega)]; exact Nat.zero_le _, fun i hi => by
  by_cases q : i = 0
  · rw [q]; show M00 1 ≤ 5; rw [M00_1]; decide
  · rw [M00_o (by omega)]; exact Nat.zero_le _, fun v hv => absurd hv (Nat.not_lt_zero _), fun l hl e he => by rw [M00_o (by omega)] at he; exact absurd he (Nat.not_lt_zero _)⟩
theorem M00_TI : TI M00 (upd (upd (upd (fun _ => 0) ((0 : Int32).toNatClampNeg) 1) ((1 : Int32).toNatClampNeg) 0) ((2 : Int32).toNatClampNeg) 0) := by
  intro i hi
  rw [upd_at, upd_at, upd_at, show (0 : Int32).toNatClampNeg = 0 from rfl, show (1 : Int32).toNatClampNeg = 1 from rfl, show (2 : Int32).toNatClampNeg = 2 from rfl]
  rcases (show i = 0 ∨ i = 1 ∨ i = 2 by omega) with q | q | q
  · rw [q]; rfl
  · rw [q]; rfl
  · rw [q]; rfl
theorem M00_ST : ST M00 0 (fun _ => 0) (fun _ => 0) (fun _ => 0) (fun _ => 0) (fun _ => 0) (fun _ => 0) (fun _ => 0) (upd (upd (upd (fun _ => 0) ((0 : Int32).toNatClampNeg) 1) ((1 : Int32).toNatClampNeg) 0) ((2 : Int32).toNatClampNeg) 0) :=
  ⟨rfl, fun v hv => absurd hv (Nat.not_lt_zero _), fun v hv => absurd hv (Nat.not_lt_zero _), fun v hv => absurd hv (Nat.not_lt_zero _), fun l hl => by rw [M00_o (by omega)]; rfl, fun l hl e he => by rw [M00_o (by omega)] at he; exact absurd he (Nat.not_lt_zero _), fun l hl e he => by rw [M00_o (by omega)] at he; exact absurd he (Nat.not_lt_zero _), fun l hl e he => by rw [M00_o (by omega)] at he; exact absurd he (Nat.not_lt_zero _), M00_TI⟩
def zINIT : DS := (M00, fun _ _ => 0, 0, 0, fun _ => 0)
def lowW (x y : Int32) : Int32 := (x &&& 2147483647) - (x &&& 2147483647) / y * y
def lotW (xs : Nat → Int32) (L : Nat) (k : Int32) : Int32 := if k < nI L then xs k.toNatClampNeg else 2009976241 * (k + 2011) + 1811
def UL (l : Launch) (y : MethodName) (cc : ByteArray) (nL : Nat) (ret : Option FieldType) (rm : Room) (g : gT) (D : va_G) (cy : Nat → ClassId) (av : List Value) (b L : Nat) (xs : Nat → Int32) (Post : Option Value → Prop) : Prop :=
  ∀ sz : Nat, Met l y (.code y cc nL ret :: wALL) rm (fun a U => uPc g D cy av [] sz a U ∧ va_X b L xs U U.heap ∧ b < U.heap.size) (uQ D (va_A [] sz) (fun v w => w = [] ∧ Post v)) rm.cells rm.slots (va_A [] sz)
theorem UL_blind {g : gT} {D : va_G} {cy : Nat → ClassId} {av : List Value} {sz b L : Nat} {xs : Nat → Int32} : FrameBlind (fun a U => uPc g D cy av [] sz a U ∧ va_X b L xs U U.heap ∧ b < U.heap.size) := fun a U gg mk h => ⟨uPc_blind a U gg mk h.1, va_X.moved (u := U) (U := U.calling gg mk a) (Vm.Alike.refl U.vm) h.2.1, h.2.2⟩
theorem UL_of {l : Launch} {y : MethodName} {cc : ByteArray} {nL : Nat} {ret : Option FieldType} {rm : Room} {g : gT} {D : va_G} {cy : Nat → ClassId} {av : List Value} {b L : Nat} {xs : Nat → Int32} {Post : Option Value → Prop} (hy : plainName y.cls = true) (hn : (lg_sl av).length ≤ nL) (lv : List (Nat × Value)) (hlv : lv_args 0 av = lv)
    (body : ∀ (p : Program) (e : Env) (s : State) (m : MethodId) (args : Array Value) (below : List Frame) (meth : Method) (c : Code) (A : Nat → Prop), vC p s m args meth c cc nL ret y.cls y.name (.code y cc nL ret :: wALL) D cy g A → va_X b L xs s s.heap → b < s.heap.size → ¬ A b → vV p l e rm s m args below meth c (MQ below (uQ D A (fun v w => w = [] ∧ Post v)) args s rm.cells rm.slots A) nL D A 0 0 [] 0 lv []) : UL l y cc nL ret rm g D cy av b L xs Post := by
  subst hlv
  intro sz
  refine Met.ofW (cc := cc) (maxL := nL) (ret := ret) hy rfl ?_
  intro p e s m args below meth c s₁ B hml hv
  obtain ⟨⟨rfl, hsz, hP, hK, hD0, hG, hW⟩, hX, hbl⟩ := hv
  subst hsz
  have hts := atoms_spec (ws := .code y cc nL ret :: wALL) B.pre
  have hl := lv_entry av (n := nL) hn
  rw [lg_entry_eq]
  refine body p e s m _ below meth c (va_A [] s.heap.size) ⟨B.exec, B.bytes, hml, findClass_of_methodNamed B.named, hts, fun w h => List.mem_cons_of_mem _ h, hK, hG, hW, fun q h => Or.inr h, B.returns, B.notSynchronized, (name_of_methodNamed B.named B.method).1⟩ hX hbl ?_ s.heap [] _ hP (hD0.self (sz := s.heap.size)) va_S.rf hl
  intro hA
  rcases hA with ⟨k, e, h⟩ | h
  · simp at h
  · omega
theorem ob1 {c n kc cm RC d : Nat} (hc : c + (n + 1) * kc ≤ cm) (hm : cm ≤ RC) (hd : Nat.ble d kc = true) : c + d ≤ RC := by
  have := Nat.le_of_ble_eq_true hd
  rw [Nat.add_mul, Nat.one_mul] at hc
  omega
theorem ob2 {c n kc cm d : Nat} (hc : c + (n + 1) * kc ≤ cm) (hd : Nat.ble d kc = true) : c + d ≤ cm := ob1 hc (Nat.le_refl _) hd
theorem ob3 {c d e : Nat} (hd : Nat.ble d e = true) : c + d ≤ c + e := Nat.add_le_add_left (Nat.le_of_ble_eq_true hd) c
theorem ob4 {c n kc cm : Nat} (hc : c + (n + 1) * kc ≤ cm) : c + kc + n * kc ≤ cm := by
  rw [Nat.add_mul, Nat.one_mul] at hc
  omega
abbrev rm_L_lot : Room := { frames := 0, cells := 0, slots := 0, locals := 0 }
section LR
variable {p : Program} {l : Launch} {e : Env} {R : Room} {s : State} {m : MethodId} {args : Array Value} {below : List Frame} {meth : Method} {c : Code} {cells slots : Nat} {Q : State → Prop} {cc : ByteArray} {nL : Nat} {ret : Option FieldType} {mn : String} {Ts : List Cond} {D : va_G} {cy : Nat → ClassId} {g : gT} {A : Nat → Prop} {w : va_W} {pc : Nat} {lv : List (Nat × Value)} {rest : List Value}
theorem v_pop (cx : vC p s m args meth c cc nL ret RL mn Ts D cy g A) {va : Value} (d : decode cc pc = .ok (.pop, 1)) (hva : va.category = 1) (k : vV p l e R s m args below meth c Q nL D A (cells) (slots) w (pc + 1) lv (rest)) : vV p l e R s m args below meth c Q nL D A (cells) (slots) w (pc) lv (va :: rest) := fun H L ls hP hD hS h => lv_pop cx.x cx.b d hva (k H L ls hP hD hS h)
theorem v_to {ce sl : Nat} {st st' : List Value} (hst : st = st') (hc : cells = ce) (hs : slots = sl) (k : vV p l e R s m args below meth c Q nL D A (ce) (sl) w (pc) lv (st')) : vV p l e R s m args below meth c Q nL D A (cells) (slots) w (pc) lv (st) := by
  subst hst
  subst hc
  subst hs
  exact k
theorem v_st {st st' : List Value} (hst : st = st') (k : vV p l e R s m args below meth c Q nL D A (cells) (slots) w (pc) lv (st')) : vV p l e R s m args below meth c Q nL D A (cells) (slots) w (pc) lv (st) := by
  subst hst
  exact k
theorem v_callSall2 (cx : vC p s m args meth c cc nL ret RL mn Ts D cy g A) {y : MethodName} {bytes : ByteArray} {maxL index n mc ms : Nat} {rt : Option FieldType} {rm : Room} {As st : List Value} {Post : Option Value → va_W → Prop} (hM : UC l y bytes maxL rt rm g D cy As w Post) (kw : kS RL index y bytes maxL rt n)
    (hR : rm.frames + 1 ≤ R.frames ∧ 8 + (maxL + 11) + rm.locals ≤ R.locals) (hm : rm.cells = mc ∧ rm.slots = ms) (hf : cells + mc ≤ R.cells ∧ slots + ms ≤ R.slots) (hn : As.length = n) (hst : st = As.reverse ++ rest) (hcat : (rest.map fun v => v.category).sum ≤ 8) (d : decode cc pc = .ok (.invokestatic index, 3))
    (kk : ∀ (v : Option Value) (w1 : va_W), Post v w1 → vV p l e R s m args below meth c Q nL D A (cells + mc) (slots + ms) w1 (pc + 3) lv (v.toList ++ rest)) : vV p l e R s m args below meth c Q nL D A (cells) (slots) w (pc) lv (st) := by
  obtain ⟨rfl, rfl⟩ := hm
  exact v_callSall cx hM kw hR hf hn hst hcat d kk
theorem v_slen2 (cx : vC p s m args meth c cc nL ret RL mn Ts D cy g A) {b L : Nat} {xs : Nat → Int32} (hX : va_X b L xs s s.heap) (hbl : b < s.heap.size) (hbA : ¬ A b) (d : decode cc pc = .ok (.arraylength, 1)) (k : vV p l e R s m args below meth c Q nL D A (cells) (slots) w (pc + 1) lv (.int (nI L) :: rest)) : vV p l e R s m args below meth c Q nL D A (cells) (slots) w (pc) lv (.ref b :: rest) := fun H K ls hP hD hS h => va_slen cx.x cx.b hX hbl hbA hS d (k H K ls hP hD hS h)
theorem v_sld2 (cx : vC p s m args meth c cc nL ret RL mn Ts D cy g A) {b L : Nat} {xs : Nat → Int32} (hX : va_X b L xs s s.heap) (hbl : b < s.heap.size) (hbA : ¬ A b) {i : Int32} (d : decode cc pc = .ok (.iaload, 1)) (h0 : vp_in i L) (k : vV p l e R s m args below meth c Q nL D A (cells) (slots) w (pc + 1) lv (.int (xs i.toNatClampNeg) :: rest)) : vV p l e R s m args below meth c Q nL D A (cells) (slots) w (pc) lv (.int i :: .ref b :: rest) := fun H K ls hP hD hS h => va_sld cx.x cx.b hX hbl hbA hS h0 d (k H K ls hP hD hS h)
end LR
theorem c_L_lot (l : Launch) (g : gT) (D : va_G) (cy : Nat → ClassId) {b L : Nat} {xs : Nat → Int32} {k : Int32} (hk : k < nI L → vp_in k L) : UL l yL_lot cL_lot 2 (some .int) rm_L_lot g D cy [.ref b, .int k] b L xs (fun v => v = some (.int (lotW xs L k))) := by
  refine UL_of (by decide +kernel) (Nat.le_of_ble_eq_true rfl) [(0, .ref b), (1, .int k)] rfl (fun p e s m args below meth c A cx hX hbl hbA => ?_)
  refine v_iload_n cx dL_lot_0 rfl 1 rfl ?_
  refine v_aload_n cx dL_lot_1 rfl 0 rfl ?_
  refine v_slen2 cx hX hbl hbA dL_lot_2 ?_
  refine v_icmp_ge (tgt := 12) (P1 := nI L ≤ k) (P2 := ¬ nI L ≤ k) cx dL_lot_3 (by decide) ⟨id, id⟩ (fun h => ?_) (fun h => ?_)
  · refine v_ldc cx dL_lot_12 wK_L_7 ?_
    refine v_iload_n cx dL_lot_14 rfl 1 rfl ?_
    refine v_sipush (v := 2011) cx dL_lot_15 (by decide) ?_
    refine v_iadd cx dL_lot_18 ?_
    refine v_imul cx dL_lot_19 ?_
    refine v_sipush (v := 1811) cx dL_lot_20 (by decide) ?_
    refine v_iadd cx dL_lot_23 ?_
    refine v_ireturn cx rfl dL_lot_24 ⟨rfl, ?_⟩
    unfold lotW
    rw [if_neg (fun z => by rw [Int32.lt_iff_toInt_lt] at z; rw [Int32.le_iff_toInt_le] at h; omega)]
  · have hlt : k < nI L := by
      rw [Int32.lt_iff_toInt_lt]
      rw [Int32.le_iff_toInt_le] at h
      omega
    refine v_aload_n cx dL_lot_6 rfl 0 rfl ?_
    refine v_iload_n cx dL_lot_7 rfl 1 rfl ?_
    refine v_sld2 cx hX hbl hbA dL_lot_8 (hk hlt) ?_
    refine v_goto (tgt := 24) cx dL_lot_9 (by decide) ?_
    refine v_ireturn cx rfl dL_lot_24 ⟨rfl, ?_⟩
    unfold lotW
    rw [if_pos hlt]
section LR2
variable {p : Program} {l : Launch} {e : Env} {R : Room} {s : State} {m : MethodId} {args : Array Value} {below : List Frame} {meth : Method} {c : Code} {cells slots : Nat} {Q : State → Prop} {cc : ByteArray} {nL : Nat} {ret : Option FieldType} {mn : String} {Ts : List Cond} {D : va_G} {cy : Nat → ClassId} {g : gT} {A : Nat → Prop} {w : va_W} {pc : Nat} {lv : List (Nat × Value)} {rest : List Value}
theorem a_low (cx : vC p s m args meth c cc nL ret RL mn Ts D cy g A) {x y : Int32} (hR : rm_L_low.frames + 1 ≤ R.frames ∧ 8 + (2 + 11) + rm_L_low.locals ≤ R.locals) (hf : cells ≤ R.cells ∧ slots ≤ R.slots) (hcat : (rest.map fun v => v.category).sum ≤ 8) (d : decode cc pc = .ok (.invokestatic 133, 3)) (hy : ¬ y = 0) (k : vV p l e R s m args below meth c Q nL D A (cells) (slots) w (pc + 3) lv (.int (lowW x y) :: rest)) : vV p l e R s m args below meth c Q nL D A (cells) (slots) w (pc) lv (.int y :: .int x :: rest) :=
  v_callSnone (As := [.int x, .int y]) cx (c_L_low l g D cy (N := 3000) (Q := fun r => r = lowW x y) ⟨hy, rfl⟩) k_L_133 hR ⟨rfl, rfl⟩ hf rfl rfl hcat d (fun r hr => by subst hr; exact k)
theorem a_lot (cx : vC p s m args meth c cc nL ret RL mn Ts D cy g A) {b L : Nat} {xs : Nat → Int32} (hX : va_X b L xs s s.heap) (hbl : b < s.heap.size) (hbA : ¬ A b) {k : Int32} (hR : rm_L_lot.frames + 1 ≤ R.frames ∧ 8 + (2 + 11) + rm_L_lot.locals ≤ R.locals) (hf : cells ≤ R.cells ∧ slots ≤ R.slots) (hcat : (rest.map fun v => v.category).sum ≤ 8) (d : decode cc pc = .ok (.invokestatic 187, 3)) (hk : k < nI L → vp_in k L) (kk : vV p l e R s m args below meth c Q nL D A (cells) (slots) w (pc + 3) lv (.int (lotW xs L k) :: rest)) : vV p l e R s m args below meth c Q nL D A (cells) (slots) w (pc) lv (.int k :: .ref b :: rest) := fun H K ls hP hD hS h =>
  have kw := k_L_187
  v_ran cx hP hD hS h [] (List.range w.length) rfl (cw2 w) (cw3 _) (fun i hi hh => by cases hh) (va_runS (As := [.ref b, .int k]) (rest := rest) ⟨cx.x, cx.b, cx.ml, cx.ow, cx.ts⟩ (c_L_lot l g D cy (b := b) (xs := xs) hk H.size) (va_cwS 2 cx.ts (wG_S cx.wl kw.1 kw.2.1 kw.2.2.1 kw.2.2.2.1) rfl rfl rfl kw.2.2.2.2 hR) ⟨UL_blind, fun U hU hW => ⟨v_here cx hP hD hS [] rfl rfl rfl U hU hW, (by rw [hU]; exact (hX.kept (hS.2.1 b hbl hbA)).moved hW.alike), (by rw [hU]; exact Nat.lt_of_lt_of_le hbl hS.1)⟩⟩ rfl rfl h.1 rfl (lv_room hcat) d hf) (fun v w1 hp => by
    obtain ⟨rfl, rfl⟩ := hp
    rw [List.append_nil]
    exact kk)
set_option maxHeartbeats 4000000 in
set_option maxRecDepth 100000 in
theorem a_new  (cx : vC p s m args meth c cc nL ret RL mn Ts D cy g A) (hl : l.stackTraces = false) (hR : rm_X5_init.frames + 1 ≤ R.frames ∧ 8 + (2 + 11) + rm_X5_init.locals ≤ R.locals) (hf : cells + 72 ≤ R.cells ∧ slots + 2806 ≤ R.slots) (hcat : (rest.map fun v => v.category).sum ≤ 6) (d0 : decode cc pc = .ok (.new 10, 3)) (d3 : decode cc (pc + 3) = .ok (.dup, 1)) (d4 : decode cc (pc + 3 + 1) = .ok (.invokespecial 173, 3))
    (k : ∀ (q : Nat) (w : va_W), DK cy q zINIT w → vV p l e R s m args below meth c Q nL D A (cells + 72) (slots + 2806) w (pc + 7) lv (.ref q :: rest)) : vV p l e R s m args below meth c Q nL D A cells slots [] pc lv rest := by
  refine n_L_10 (ce := cells + 1) (sl := slots + 9) cx ⟨rfl, rfl⟩ (by omega) (by omega) d0 (fun q => ?_)
  refine v_is (ws' := [(q, .inr (5, [.null, .null, .null, .null, .null, .null, .null, .int 0, .int 0]))]) rfl ?_
  refine v_dup cx d3 rfl ?_
  refine v_callI (As := []) cx (c_X5_init l g D cy q) k_L_173 hR ⟨(show cells + 1 + 71 ≤ R.cells by omega), (show slots + 9 + 2797 ≤ R.slots by omega)⟩ rfl rfl (by simp only [List.map_cons, List.sum_cons]; exact Nat.le_trans (Nat.add_le_add (show Value.category (.ref q) ≤ 1 from Nat.le_refl 1) hcat) (by decide)) d4 [0] [] (by decide) rfl rfl rfl (fun v9 w9 hp => ?_)
  refine Exists.elim hp fun q0 hp => Exists.elim hp fun q1 hp => Exists.elim hp fun q2 hp => Exists.elim hp fun q3 hp => Exists.elim hp fun q4 hp => Exists.elim hp fun q5 hp => Exists.elim hp fun q6 hp => Exists.elim hp fun q7 hp => Exists.elim hp fun q8 hp => Exists.elim hp fun q9 hp => Exists.elim hp fun q10 hp => Exists.elim hp fun q11 hp => Exists.elim hp fun q12 hp => Exists.elim hp fun q13 hp => Exists.elim hp fun q14 hp => Exists.elim hp fun q15 hp => Exists.elim hp fun q16 hp => Exists.elim hp fun q17 hp => Exists.elim hp fun q18 hp => Exists.elim hp fun q19 hp => Exists.elim hp fun q20 hp => Exists.elim hp fun q21 hp => Exists.elim hp fun q22 hp => Exists.elim hp fun q23 hp => Exists.elim hp fun q24 hp => Exists.elim hp fun q25 hp => Exists.elim hp fun q26 hp => Exists.elim hp fun q27 hp => Exists.elim hp fun q28 hp => Exists.elim hp fun q29 hp => Exists.elim hp fun q30 hp => Exists.elim hp fun q31 hp => Exists.elim hp fun q32 hp => Exists.elim hp fun q33 hp => Exists.elim hp fun q34 hp => Exists.elim hp fun q35 hp => Exists.elim hp fun q36 hp => Exists.elim hp fun q37 hp => Exists.elim hp fun q38 hp => Exists.elim hp fun q39 hp => Exists.elim hp fun q40 hp => Exists.elim hp fun q41 hp => Exists.elim hp fun q42 hp => Exists.elim hp fun q43 hp => Exists.elim hp fun q44 hp => Exists.elim hp fun q45 hp => Exists.elim hp fun q46 hp => Exists.elim hp fun q47 hp => Exists.elim hp fun q48 hp => Exists.elim hp fun q49 hp => Exists.elim hp fun q50 hp => Exists.elim hp fun q51 hp => Exists.elim hp fun q52 hp => Exists.elim hp fun q53 hp => Exists.elim hp fun q54 hp => Exists.elim hp fun q55 hp => Exists.elim hp fun q56 hp => Exists.elim hp fun q57 hp => Exists.elim hp fun q58 hp => Exists.elim hp fun q59 hp => Exists.elim hp fun q60 hp => Exists.elim hp fun q61 hp => Exists.elim hp fun q62 hp => Exists.elim hp fun q63 hp => Exists.elim hp fun q64 hp => Exists.elim hp fun q65 hp => Exists.elim hp fun q66 hp => Exists.elim hp fun q67 hp => Exists.elim hp fun q68 hp => Exists.elim hp fun q69 hp => Exists.elim hp fun q70 hp => ?_
  obtain ⟨rfl, rfl⟩ := hp
  refine v_to (st' := .ref q :: rest) (ce := cells + 72) (sl := slots + 2806) rfl (show cells + 1 + 71 = _ by omega) (show slots + 9 + 2797 = _ by omega) ?_
  have hdk : DK cy q zINIT [(q, .inr (5, [.ref q0, .ref q1, .ref q2, .ref q3, .ref q4, .ref q5, .ref q6, .int 0, .int 1])), (q0, .inr (4, [.ref q7, .int 0])), (q1, .inr (1, [.ref q0, .int 0, .int 0, .long 0, .int 0, .ref q8, .ref q9, .ref q10, .int 0, .ref q11, .int 0])), (q2, .inr (3, [.int 0, .ref q12, .ref q13, .ref q14, .ref q15, .ref q16, .ref q17, .ref q18, .ref q19])), (q3, .inr (2, [.ref q2, .ref q20, .ref q21, .ref q22, .ref q23, .ref q24, .ref q25, .int 0])), (q4, .inr (2, [.ref q2, .ref q26, .ref q27, .ref q28, .ref q29, .ref q30, .ref q31, .int 0])), (q5, .inr (0, [.ref q2, .ref q32, .ref q33, .ref q34, .int 0])), (q6, .inl (cy 4, 4, .inr (.inr (.inr (.inr (ga4 q35 q36 q37 q38)))))), (q7, .inl (cy 2, 120, .inl (fun _ => 0))), (q8, .inl (cy 1, 10, .inr (.inl (fun _ => 0)))), (q9, .inl (cy 0, 10, .inl (fun _ => 0))), (q10, .inl (cy 0, 10, .inl (fun _ => 0))), (q11, .inl (cy 1, 3, .inr (.inl (fun _ => 0)))), (q12, .inl (cy 1, 48, .inr (.inl (fun _ => 0)))), (q13, .inl (cy 0, 16, .inl (fun _ => 0))), (q14, .inl (cy 0, 16, .inl (fun _ => 0))), (q15, .inl (cy 0, 6, .inl (fun _ => 0))), (q16, .inl (cy 1, 60, .inr (.inl (fun _ => 0)))), (q17, .inl (cy 0, 60, .inl (fun _ => 0))), (q18, .inl (cy 0, 60, .inl (fun _ => 0))), (q19, .inl (cy 0, 3, .inl (upd (upd (upd (fun _ => 0) ((0 : Int32).toNatClampNeg) 1) ((1 : Int32).toNatClampNeg) 0) ((2 : Int32).toNatClampNeg) 0))), (q20, .inl (cy 0, 96, .inl (fun _ => 0))), (q21, .inl (cy 0, 96, .inl (fun _ => 0))), (q22, .inl (cy 0, 16, .inl (fun _ => 0))), (q23, .inl (cy 0, 16, .inl (fun _ => 0))), (q24, .inl (cy 0, 16, .inl (fun _ => 0))), (q25, .inl (cy 0, 48, .inl (fun _ => 0))), (q26, .inl (cy 0, 96, .inl (fun _ => 0))), (q27, .inl (cy 0, 96, .inl (fun _ => 0))), (q28, .inl (cy 0, 16, .inl (fun _ => 0))), (q29, .inl (cy 0, 16, .inl (fun _ => 0))), (q30, .inl (cy 0, 16, .inl (fun _ => 0))), (q31, .inl (cy 0, 48, .inl (fun _ => 0))), (q32, .inl (cy 0, 16, .inl (fun _ => 0))), (q33, .inl (cy 0, 16, .inl (fun _ => 0))), (q34, .inl (cy 2, 608, .inl (fun _ => 0))), (q35, .inr (3, [.int 0, .ref q39, .ref q40, .ref q41, .ref q42, .ref q43, .ref q44, .ref q45, .ref q46])), (q36, .inr (3, [.int 0, .ref q47, .ref q48, .ref q49, .ref q50, .ref q51, .ref q52, .ref q53, .ref q54])), (q37, .inr (3, [.int 0, .ref q55, .ref q56, .ref q57, .ref q58, .ref q59, .ref q60, .ref q61, .ref q62])), (q38, .inr (3, [.int 0, .ref q63, .ref q64, .ref q65, .ref q66, .ref q67, .ref q68, .ref q69, .ref q70])), (q39, .inl (cy 1, 48, .inr (.inl (fun _ => 0)))), (q40, .inl (cy 0, 16, .inl (fun _ => 0))), (q41, .inl (cy 0, 16, .inl (fun _ => 0))), (q42, .inl (cy 0, 6, .inl (fun _ => 0))), (q43, .inl (cy 1, 60, .inr (.inl (fun _ => 0)))), (q44, .inl (cy 0, 60, .inl (fun _ => 0))), (q45, .inl (cy 0, 60, .inl (fun _ => 0))), (q46, .inl (cy 0, 3, .inl (upd (upd (upd (fun _ => 0) ((0 : Int32).toNatClampNeg) 1) ((1 : Int32).toNatClampNeg) 0) ((2 : Int32).toNatClampNeg) 0))), (q47, .inl (cy 1, 48, .inr (.inl (fun _ => 0)))), (q48, .inl (cy 0, 16, .inl (fun _ => 0))), (q49, .inl (cy 0, 16, .inl (fun _ => 0))), (q50, .inl (cy 0, 6, .inl (fun _ => 0))), (q51, .inl (cy 1, 60, .inr (.inl (fun _ => 0)))), (q52, .inl (cy 0, 60, .inl (fun _ => 0))), (q53, .inl (cy 0, 60, .inl (fun _ => 0))), (q54, .inl (cy 0, 3, .inl (upd (upd (upd (fun _ => 0) ((0 : Int32).toNatClampNeg) 1) ((1 : Int32).toNatClampNeg) 0) ((2 : Int32).toNatClampNeg) 0))), (q55, .inl (cy 1, 48, .inr (.inl (fun _ => 0)))), (q56, .inl (cy 0, 16, .inl (fun _ => 0))), (q57, .inl (cy 0, 16, .inl (fun _ => 0))), (q58, .inl (cy 0, 6, .inl (fun _ => 0))), (q59, .inl (cy 1, 60, .inr (.inl (fun _ => 0)))), (q60, .inl (cy 0, 60, .inl (fun _ => 0))), (q61, .inl (cy 0, 60, .inl (fun _ => 0))), (q62, .inl (cy 0, 3, .inl (upd (upd (upd (fun _ => 0) ((0 : Int32).toNatClampNeg) 1) ((1 : Int32).toNatClampNeg) 0) ((2 : Int32).toNatClampNeg) 0))), (q63, .inl (cy 1, 48, .inr (.inl (fun _ => 0)))), (q64, .inl (cy 0, 16, .inl (fun _ => 0))), (q65, .inl (cy 0, 16, .inl (fun _ => 0))), (q66, .inl (cy 0, 6, .inl (fun _ => 0))), (q67, .inl (cy 1, 60, .inr (.inl (fun _ => 0)))), (q68, .inl (cy 0, 60, .inl (fun _ => 0))), (q69, .inl (cy 0, 60, .inl (fun _ => 0))), (q70, .inl (cy 0, 3, .inl (upd (upd (upd (fun _ => 0) ((0 : Int32).toNatClampNeg) 1) ((1 : Int32).toNatClampNeg) 0) ((2 : Int32).toNatClampNeg) 0)))] := DK_mk ⟨rfl, rfl, rfl, M00_WF, M00_ST, fun p hp => absurd hp (Nat.not_lt_zero _), ⟨fun q => absurd q (Nat.not_lt_zero _), fun q => absurd q (Nat.not_lt_zero _), fun q => absurd q (Nat.not_lt_zero _), fun q => absurd q (Nat.not_lt_zero _)⟩, Nat.zero_le _, Nat.zero_le _, fun _ => (by decide : (0 : Nat) < 128), Or.inl rfl⟩
  exact k q _ hdk
end LR2

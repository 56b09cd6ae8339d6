-- ===== end of PART A; then your names; then what follows =====
/-! THE CLAIM OUT OF ONE WALK OF THE LAW'S BODY. Your part is whole_start (and what it stands on); all else here is the same for every law, but numbers. -/
def R_law : String := "RatherDeskLaw"
def lw_P (b : Addr) (xs : List Int32) (args : Array Value) (s : State) : Prop := args = #[.ref b] ∧ s.IntsAt b xs ∧ xs.length ≤ 260 ∧ (Jvm.Cond.and given_1 narrow_1).before args s = true
def lw_Q (_ : Array Value) (s : State) (o : Outcome) (t : State) : Prop := o = .returned (some (.int 1)) ∧ Framed s o t [] 600104 7301314
def lw_Z (below : List Frame) (a : Array Value) (s : State) : State → Prop := fun t => ∃ o, t.status = .running ∧ Ended t below o ∧ lw_Q a s o t
/-- the law's own end, with 1 on the stack, nothing written that was there before, its room as the claim has it -/
theorem lw_ret {p : Program} {l : Launch} {e : Env} {s : State} {m : MethodId} {below : List Frame} {meth : Method} {c : Code} {b : Nat} (hx : p.tables.exec = Jvm.exec) (hb : c.code = code) (hr : meth.sig.returnType = ret) (hlocks : meth.locks = false) {pc : Nat} {H : Heap} {ls : Array Slot} (hdg : decode code pc = .ok (.ireturn, 1)) : W p l e room_1 s m #[Value.ref b] below meth c H [] 600104 7301314 (lw_Z below #[Value.ref b] s) (F0 m pc ls [.int 1]) := by
  intro T hT X
  obtain ⟨fs, hret, hrun, hended, hW, hframe⟩ := X.leave (v := some (.int 1)) (hlocks := hlocks) (fun h => by rw [hr] at h; cases h)
  have hmeth' : T.vm.method? m = some meth := X.method'
  refine ⟨T.setFrames fs, ?_, .returned (some (.int 1)), hrun, hended, rfl, ⟨_, rfl⟩, hW, hframe⟩
  jvm_step X.here [X.here.top, hx, hb, hdg, hmeth', hr, ret, narrow_b1]
  (try refine ⟨rfl, ?_⟩); (try refine ⟨rfl, ?_⟩)
  first | (intro acts; rw [hret _ acts rfl rfl rfl]) | rw [hret _ _ rfl rfl rfl]
  exact Steps.refl _
/-- what holds at the law's entry: the machine, the code, the tables' words (any of lw_tbl by 'hts w (by decide +kernel)'), the script of L ints xs at the cell b, what the Statement gives of the start (any of its parts by flat_of_before) -/
def lw_At (p : Program) (s : State) (m : MethodId) (meth : Method) (c : Code) (b L : Nat) (xs : Nat → Int32) : Prop :=
  p.tables.exec = Jvm.exec ∧ c.code = code ∧ meth.sig.returnType = ret ∧ c.maxLocals = 14 ∧ s.vm.findClass R_law = some m.cls ∧ (∀ w ∈ lw_tbl, w.before #[Value.ref b] s = true) ∧ va_X b L xs s s.heap ∧ b < s.heap.size ∧ meth.locks = false ∧ (Jvm.Cond.and given_1 narrow_1).before #[Value.ref b] s = true

theorem sr_of {own tx : String} {k : Nat} {A : Array Value} {U : State} (h : (Cond.stringRef own k tx).before A U = true) : (Cond.stringRef own k tx).before #[] U = true := h
section LK
variable {p : Program} {l : Launch} {e : Env} {s : State} {m : MethodId} {below : List Frame} {meth : Method} {c : Code} {cells slots : Nat} {Q : State → Prop} {mn : String} {D : va_G} {cy : Nat → ClassId} {g : gT} {ws : va_W} {pc b L : Nat} {xs : Nat → Int32} {lv : List (Nat × Value)} {rest : List Value}
theorem v_slen (cx : vC p s m #[Value.ref b] meth c code 14 ret RL mn lw_tbl D cy g (fun q : Nat => s.heap.size ≤ q)) (hX : va_X b L xs s s.heap) (hbl : b < s.heap.size) (hbA : ¬ (fun q : Nat => s.heap.size ≤ q) b) (d : decode code pc = .ok (.arraylength, 1)) (k : vV p l e room_1 s m #[Value.ref b] below meth c Q 14 D (fun q : Nat => s.heap.size ≤ q) cells slots ws (pc + 1) lv (.int (nI L) :: rest)) : vV p l e room_1 s m #[Value.ref b] below meth c Q 14 D (fun q : Nat => s.heap.size ≤ q) cells slots ws (pc) lv (.ref b :: rest) := fun H K ls hP hD hS h => va_slen cx.x cx.b hX hbl hbA hS d (k H K ls hP hD hS h)
theorem v_sld (cx : vC p s m #[Value.ref b] meth c code 14 ret RL mn lw_tbl D cy g (fun q : Nat => s.heap.size ≤ q)) (hX : va_X b L xs s s.heap) (hbl : b < s.heap.size) (hbA : ¬ (fun q : Nat => s.heap.size ≤ q) b) {i : Int32} {P1 : Prop} (d : decode code pc = .ok (.iaload, 1)) (h0 : vp_in i L ∧ P1) (k : P1 → vV p l e room_1 s m #[Value.ref b] below meth c Q 14 D (fun q : Nat => s.heap.size ≤ q) cells slots ws (pc + 1) lv (.int (xs i.toNatClampNeg) :: rest)) : vV p l e room_1 s m #[Value.ref b] below meth c Q 14 D (fun q : Nat => s.heap.size ≤ q) cells slots ws (pc) lv (.int i :: .ref b :: rest) := fun H K ls hP hD hS h => va_sld cx.x cx.b hX hbl hbA hS h0.1 d (k h0.2 H K ls hP hD hS h)
theorem law_ret (cx : vC p s m #[Value.ref b] meth c code 14 ret RL mn lw_tbl D cy g (fun q : Nat => s.heap.size ≤ q)) (h1 : cells ≤ 600104) (h2 : slots ≤ 7301314) (d : decode code pc = .ok (.ireturn, 1)) : vV p l e room_1 s m #[Value.ref b] below meth c (lw_Z below #[Value.ref b] s) 14 D (fun q : Nat => s.heap.size ≤ q) cells slots ws pc lv [.int 1] := fun H K ls hP hD hS h => va_forget (fun q hq => hS.2.2 q hq) (W.widen h1 h2 (lw_ret cx.x cx.b cx.rt cx.lo d))
end LK
set_option maxHeartbeats 8000000 in
set_option maxRecDepth 100000 in
/-- the environment at the law's entry -/
theorem law_env {p : Program} {s : State} {m : MethodId} {meth : Method} {c : Code} {b L : Nat} {xs : Nat → Int32} (C0 : lw_At p s m meth c b L xs) : ∃ (D : va_G) (cy : Nat → ClassId) (g : gT), vC p s m #[Value.ref b] meth c code 14 ret RL meth.name lw_tbl D cy g (fun q : Nat => s.heap.size ≤ q) := by
  obtain ⟨hx, hb, hr, hml, hown, hts, hX, hbl, hlocks, hgv⟩ := C0
  have hs := flat_of_before _ hgv
  have hA : ∀ a : Nat, a < s.heap.size → ¬ (fun q : Nat => s.heap.size ≤ q) a := fun a h => Nat.not_le.mpr h
  have hw : ∀ w ∈ wALL, w.before #[Value.ref b] s = true := fun w h => hts w (List.mem_filter.mp h).1
  obtain ⟨c0, i0, kn0⟩ := u_known (C := RX0) (T := TX0) (N := 5) (n := 5) hts (fun w h => (List.mem_filter.mp (wL_X0 w h)).1) (hw _ wInst_X0)
  obtain ⟨c1, i1, kn1⟩ := u_known (C := RX1) (T := TX1) (N := 11) (n := 11) hts (fun w h => (List.mem_filter.mp (wL_X1 w h)).1) (hw _ wInst_X1)
  obtain ⟨c2, i2, kn2⟩ := u_known (C := RX2) (T := TX2) (N := 8) (n := 8) hts (fun w h => (List.mem_filter.mp (wL_X2 w h)).1) (hw _ wInst_X2)
  obtain ⟨c3, i3, kn3⟩ := u_known (C := RX3) (T := TX3) (N := 9) (n := 9) hts (fun w h => (List.mem_filter.mp (wL_X3 w h)).1) (hw _ wInst_X3)
  obtain ⟨c4, i4, kn4⟩ := u_known (C := RX4) (T := TX4) (N := 2) (n := 2) hts (fun w h => (List.mem_filter.mp (wL_X4 w h)).1) (hw _ wInst_X4)
  obtain ⟨c5, i5, kn5⟩ := u_known (C := RX5) (T := TX5) (N := 9) (n := 9) hts (fun w h => (List.mem_filter.mp (wL_X5 w h)).1) (hw _ wInst_X5)
  obtain ⟨a0, b0, d0, e0, f0, g0⟩ := Cond.arrayClass_spec (show (Cond.arrayClass .int).holds #[Value.ref b] s none s [] = true from hw _ wArr_int)
  obtain ⟨a1, b1, d1, e1, f1, g1⟩ := Cond.arrayClass_spec (show (Cond.arrayClass .long).holds #[Value.ref b] s none s [] = true from hw _ wArr_long)
  obtain ⟨a2, b2, d2, e2, f2, g2⟩ := Cond.arrayClass_spec (show (Cond.arrayClass .byte).holds #[Value.ref b] s none s [] = true from hw _ wArr_byte)
  have hao : (Cond.arrayOver (.object RX3)).before #[Value.ref b] s = true := hts _ (wA_1 _ (List.mem_of_getElem? (l := tables_1_1) (i := 193) rfl))
  obtain ⟨d4, a4, b4, e4, -, f4, g4, h4⟩ := Cond.arrayOver_spec (show (Cond.arrayOver (.object RX3)).holds #[Value.ref b] s none s [] = true from hao)
  obtain ⟨t0, ht0, hT⟩ := va_Tof (args := #[Value.ref b]) (s := s) (tm := .static "RatherDesk" "MOST_NAMES" "[I") (ty := .int) (N := 3) (f := gmn) (A := fun q : Nat => s.heap.size ≤ q) (by decide) (hs _ (by decide +kernel)) (va_eqt (z := 3) (hs _ (by decide +kernel))) (fun j hj => by
    rcases (show j = 0 ∨ j = 1 ∨ j = 2 by omega) with rfl | rfl | rfl
    · exact va_eqt (z := 2) (hs (Cond.eq (.elem (.static "RatherDesk" "MOST_NAMES" "[I") (.int 0)) (.int 2)) (by decide +kernel))
    · exact va_eqt (z := 3) (hs (Cond.eq (.elem (.static "RatherDesk" "MOST_NAMES" "[I") (.int 1)) (.int 3)) (by decide +kernel))
    · exact va_eqt (z := 1) (hs (Cond.eq (.elem (.static "RatherDesk" "MOST_NAMES" "[I") (.int 2)) (.int 1)) (by decide +kernel))) hA
  have hstr : ∀ (k : Nat) (tx : String), (Cond.stringRef "RatherDesk" k tx).before #[] s = true → ∃ a, (Term.string "RatherDesk" k).eval #[] s none [] s = some (.ref a) := fun k tx h => by
    obtain ⟨_, _, _, a, _, _, _, _, _, h9⟩ := Cond.stringRef_spec (s := s) (cls := "RatherDesk") kn5.2.1 (show (Cond.stringRef "RatherDesk" k tx).holds #[] s none s [] = true from h)
    exact ⟨a, h9⟩
  obtain ⟨sa, hsa⟩ : ∃ sa : Nat → Nat, ∀ (k : Nat) (tx : String), (Cond.stringRef "RatherDesk" k tx).before #[] s = true → vk_R "RatherDesk" k tx (sa k) s := by
    refine ⟨fun k => match (Term.string "RatherDesk" k).eval #[] s none [] s with | some (.ref a) => a | _ => 0, fun k tx h => ?_⟩
    obtain ⟨a, ha⟩ := hstr k tx h
    refine ⟨h, ?_⟩
    simp only [ha]
  refine ⟨(fun k => match k with | 0 => c0 | 1 => c1 | 2 => c2 | 3 => c3 | 4 => c4 | _ => c5, fun k => match k with | 0 => i0 | 1 => i1 | 2 => i2 | 3 => i3 | 4 => i4 | _ => i5), fun k => match k with | 0 => a0 | 1 => a1 | 2 => a2 | 3 => a0 | _ => a4, (t0, sa), hx, hb, hml, hown, hts, fun w h => (List.mem_filter.mp h).1, ⟨?_, ?_⟩, ⟨va_Zref (hts _ (wA_2 _ (List.mem_of_getElem? (l := tables_1_2) (i := 143) rfl))) (hts _ (wA_1 _ (List.mem_of_getElem? (l := tables_1_1) (i := 1) rfl))) ht0 hA, hT, vx_Zqof (hts _ (wA_2 _ (List.mem_of_getElem? (l := tables_1_2) (i := 66) rfl))) (hts _ (wA_1 _ (List.mem_of_getElem? (l := tables_1_1) (i := 7) rfl))) (hs _ (by decide +kernel)) hA, vx_Zqof (hts _ (wA_2 _ (List.mem_of_getElem? (l := tables_1_2) (i := 68) rfl))) (hts _ (wA_1 _ (List.mem_of_getElem? (l := tables_1_1) (i := 7) rfl))) (hs _ (by decide +kernel)) hA⟩, ⟨?_, ?_, ?_, ?_, ?_, ?_, ?_⟩, fun q h => h, hr, hlocks, rfl⟩
  · intro k q hq
    match k, hq with
    | 0, hq => cases hq; exact kn0
    | 1, hq => cases hq; exact kn1
    | 2, hq => cases hq; exact kn2
    | 3, hq => cases hq; exact kn3
    | 4, hq => cases hq; exact kn4
    | 5, hq => cases hq; exact kn5
    | k + 6, hq => simp [vwCl] at hq
  · intro k q hq
    match k, hq with
    | 0, hq => cases hq; exact ⟨fun n z => ⟨fun k h => (by cases h), b0, f0, d0, g0⟩, e0⟩
    | 1, hq => cases hq; exact ⟨fun n z => ⟨fun k h => (by cases h), b1, f1, d1, g1⟩, e1⟩
    | 2, hq => cases hq; exact ⟨fun n z => ⟨fun k h => (by cases h), b2, f2, d2, g2⟩, e2⟩
    | 3, hq => cases hq; exact ⟨fun n z => ⟨fun k h => (by cases h), b0, f0, d0, g0⟩, e0⟩
    | 4, hq => cases hq; exact ⟨fun n z => ⟨fun k h => (by cases h), b4, f4, d4, g4⟩, b4, d4, f4, g4, e4, h4⟩
    | k + 5, hq => simp [gTy] at hq
  · exact List.forall_mem_cons.mpr ⟨va_Nw.of rfl (hts _ (wA_2 _ (List.mem_of_getElem? (l := tables_1_2) (i := 142) rfl))), List.forall_mem_cons.mpr ⟨va_Nw.of rfl (hts _ (wA_3 _ (List.mem_of_getElem? (l := tables_1_3) (i := 42) rfl))), List.forall_mem_cons.mpr ⟨va_Nw.of rfl (hts _ (wA_3 _ (List.mem_of_getElem? (l := tables_1_3) (i := 105) rfl))), fun _ h => absurd h List.not_mem_nil⟩⟩⟩
  · exact List.forall_mem_cons.mpr ⟨va_Nw.of rfl (hts _ (wA_1 _ (List.mem_of_getElem? (l := tables_1_1) (i := 24) rfl))), List.forall_mem_cons.mpr ⟨va_Nw.of rfl (hts _ (wA_1 _ (List.mem_of_getElem? (l := tables_1_1) (i := 88) rfl))), List.forall_mem_cons.mpr ⟨va_Nw.of rfl (hts _ (wA_2 _ (List.mem_of_getElem? (l := tables_1_2) (i := 8) rfl))), List.forall_mem_cons.mpr ⟨va_Nw.of rfl (hts _ (wA_2 _ (List.mem_of_getElem? (l := tables_1_2) (i := 19) rfl))), List.forall_mem_cons.mpr ⟨va_Nw.of rfl (hts _ (wA_3 _ (List.mem_of_getElem? (l := tables_1_3) (i := 47) rfl))), List.forall_mem_cons.mpr ⟨va_Nw.of rfl (hts _ (wA_3 _ (List.mem_of_getElem? (l := tables_1_3) (i := 67) rfl))), fun _ h => absurd h List.not_mem_nil⟩⟩⟩⟩⟩⟩
  · exact List.forall_mem_cons.mpr ⟨hsa _ _ (sr_of (hts _ (wA_2 _ (List.mem_of_getElem? (l := tables_1_2) (i := 80) rfl)))), List.forall_mem_cons.mpr ⟨hsa _ _ (sr_of (hts _ (wA_2 _ (List.mem_of_getElem? (l := tables_1_2) (i := 179) rfl)))), List.forall_mem_cons.mpr ⟨hsa _ _ (sr_of (hts _ (wA_2 _ (List.mem_of_getElem? (l := tables_1_2) (i := 201) rfl)))), List.forall_mem_cons.mpr ⟨hsa _ _ (sr_of (hts _ (wA_2 _ (List.mem_of_getElem? (l := tables_1_2) (i := 217) rfl)))), List.forall_mem_cons.mpr ⟨hsa _ _ (sr_of (hts _ (wA_2 _ (List.mem_of_getElem? (l := tables_1_2) (i := 233) rfl)))), List.forall_mem_cons.mpr ⟨hsa _ _ (sr_of (hts _ (wA_2 _ (List.mem_of_getElem? (l := tables_1_2) (i := 234) rfl)))), List.forall_mem_cons.mpr ⟨hsa _ _ (sr_of (hts _ (wA_3 _ (List.mem_of_getElem? (l := tables_1_3) (i := 17) rfl)))), List.forall_mem_cons.mpr ⟨hsa _ _ (sr_of (hts _ (wA_3 _ (List.mem_of_getElem? (l := tables_1_3) (i := 25) rfl)))), List.forall_mem_cons.mpr ⟨hsa _ _ (sr_of (hts _ (wA_3 _ (List.mem_of_getElem? (l := tables_1_3) (i := 174) rfl)))), List.forall_mem_cons.mpr ⟨hsa _ _ (sr_of (hts _ (wA_3 _ (List.mem_of_getElem? (l := tables_1_3) (i := 196) rfl)))), List.forall_mem_cons.mpr ⟨hsa _ _ (sr_of (hts _ (wA_3 _ (List.mem_of_getElem? (l := tables_1_3) (i := 214) rfl)))), List.forall_mem_cons.mpr ⟨hsa _ _ (sr_of (hts _ (wA_3 _ (List.mem_of_getElem? (l := tables_1_3) (i := 230) rfl)))), List.forall_mem_cons.mpr ⟨hsa _ _ (sr_of (hts _ (wA_4 _ (List.mem_of_getElem? (l := tables_1_4) (i := 22) rfl)))), List.forall_mem_cons.mpr ⟨hsa _ _ (sr_of (hts _ (wA_4 _ (List.mem_of_getElem? (l := tables_1_4) (i := 76) rfl)))), List.forall_mem_cons.mpr ⟨hsa _ _ (sr_of (hts _ (wA_4 _ (List.mem_of_getElem? (l := tables_1_4) (i := 109) rfl)))), List.forall_mem_cons.mpr ⟨hsa _ _ (sr_of (hts _ (wA_4 _ (List.mem_of_getElem? (l := tables_1_4) (i := 110) rfl)))), List.forall_mem_cons.mpr ⟨hsa _ _ (sr_of (hts _ (wA_4 _ (List.mem_of_getElem? (l := tables_1_4) (i := 130) rfl)))), List.forall_mem_cons.mpr ⟨hsa _ _ (sr_of (hts _ (wA_4 _ (List.mem_of_getElem? (l := tables_1_4) (i := 138) rfl)))), List.forall_mem_cons.mpr ⟨hsa _ _ (sr_of (hts _ (wA_4 _ (List.mem_of_getElem? (l := tables_1_4) (i := 143) rfl)))), fun _ h => absurd h List.not_mem_nil⟩⟩⟩⟩⟩⟩⟩⟩⟩⟩⟩⟩⟩⟩⟩⟩⟩⟩⟩
  · exact List.forall_mem_cons.mpr ⟨va_Nc.of (hs _ (by decide +kernel)), List.forall_mem_cons.mpr ⟨va_Nc.of (hs _ (by decide +kernel)), List.forall_mem_cons.mpr ⟨va_Nc.of (hs _ (by decide +kernel)), List.forall_mem_cons.mpr ⟨va_Nc.of (hs _ (by decide +kernel)), List.forall_mem_cons.mpr ⟨va_Nc.of (hs _ (by decide +kernel)), List.forall_mem_cons.mpr ⟨va_Nc.of (hs _ (by decide +kernel)), fun _ h => absurd h List.not_mem_nil⟩⟩⟩⟩⟩⟩
  · exact va_AO.of hao
  · exact List.forall_mem_cons.mpr ⟨va_Nw.of rfl (hts _ (wA_2 _ (List.mem_of_getElem? (l := tables_1_2) (i := 41) rfl))), List.forall_mem_cons.mpr ⟨va_Nw.of rfl (hts _ (wA_2 _ (List.mem_of_getElem? (l := tables_1_2) (i := 194) rfl))), List.forall_mem_cons.mpr ⟨va_Nw.of rfl (hts _ (wA_3 _ (List.mem_of_getElem? (l := tables_1_3) (i := 189) rfl))), fun _ h => absurd h List.not_mem_nil⟩⟩⟩
  · exact List.forall_mem_cons.mpr ⟨va_Nw.of rfl (hts _ (wA_2 _ (List.mem_of_getElem? (l := tables_1_2) (i := 42) rfl))), List.forall_mem_cons.mpr ⟨va_Nw.of rfl (hts _ (wA_2 _ (List.mem_of_getElem? (l := tables_1_2) (i := 43) rfl))), List.forall_mem_cons.mpr ⟨va_Nw.of rfl (hts _ (wA_2 _ (List.mem_of_getElem? (l := tables_1_2) (i := 44) rfl))), List.forall_mem_cons.mpr ⟨va_Nw.of rfl (hts _ (wA_2 _ (List.mem_of_getElem? (l := tables_1_2) (i := 45) rfl))), List.forall_mem_cons.mpr ⟨va_Nw.of rfl (hts _ (wA_2 _ (List.mem_of_getElem? (l := tables_1_2) (i := 46) rfl))), List.forall_mem_cons.mpr ⟨va_Nw.of rfl (hts _ (wA_2 _ (List.mem_of_getElem? (l := tables_1_2) (i := 47) rfl))), fun _ h => absurd h List.not_mem_nil⟩⟩⟩⟩⟩⟩

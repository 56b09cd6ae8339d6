abbrev rm_L_name : Room := { frames := 9, cells := 3, slots := 18, locals := 146 }
set_option maxHeartbeats 40000000 in
set_option maxRecDepth 100000 in
theorem w_L_name_4 {p : Program} {l : Launch} {e : Env} {s : State} {m : MethodId} {args : Array Value} {below : List Frame} {meth : Method} {c : Code} {Q9 : State → Prop} {mn : String} {Ts : List Cond} {D : va_G} {cy : Nat → ClassId} {g : gT} {A : Nat → Prop} (cx : vC p s m args meth c cL_name 4 (some .int) RL mn Ts D cy g A) (hl : l.stackTraces = false) {q_p0 : Nat} {x1 : Int32} {K4_42 : Int32 → Int32 → DS → Prop} {cm sm : Nat} (hcm : cm ≤ 3) (hsm : sm ≤ 18) (hK42 : ∀ (x2 : Int32) (x3 : Int32) (z : DS) (w : va_W), K4_42 x2 x3 z → DK cy q_p0 z w → vV p l e rm_L_name s m args below meth c Q9 4 D A cm sm w 42 [(0, .ref q_p0), (1, .int x1), (2, .int x2), (3, .int x3)] []) : ∀ (n c9 s9 : Nat), c9 + n * 1 ≤ cm → s9 + n * 6 ≤ sm → ∀ (x2 : Int32) (x3 : Int32) (z : DS) (w : va_W), p_L_name_4 x1 K4_42 n x2 x3 z → DK cy q_p0 z w → vV p l e rm_L_name s m args below meth c Q9 4 D A c9 s9 w 4 [(0, .ref q_p0), (1, .int x1), (2, .int x2), (3, .int x3)] [] := by
  intro n
  induction n with
  | zero => intro c9 s9 hc9 hs9 x2 x3 z w h; exact False.elim h
  | succ n ih =>
    intro c9 s9 hc9 hs9 x2 x3 z w h hdk
    unfold p_L_name_4 at h
    refine v_iload_n cx dL_name_4 rfl 3 rfl ?_
    refine v_iconst (v := 1) cx dL_name_5 (by decide) ?_
    refine v_iload_n cx dL_name_6 rfl 1 rfl ?_
    refine v_iconst (v := 4) cx dL_name_7 (by decide) ?_
    refine v_ishr cx dL_name_8 ?_
    refine v_iconst (v := 2) cx dL_name_9 (by decide) ?_
    refine a_low cx (by decide) ⟨(ob1 (c := c9) (d := 0) hc9 hcm rfl), (ob1 (c := s9) (d := 0) hs9 hsm rfl)⟩ (Nat.le_of_ble_eq_true rfl) dL_name_10 (by decide) ?_
    refine v_iadd cx dL_name_13 ?_
    refine v_icmp_ge (tgt := 42) cx dL_name_14 (by decide) h (fun h => ?_) (fun h => ?_)
    · refine v_lv (lv' := [(0, .ref q_p0), (1, .int x1), (2, .int x2), (3, .int x3)]) [0, 1, 2, 3] rfl ?_
      refine v_widen (k9 := cm) (n9 := sm) (ob2 (c := c9) (d := 0) hc9 rfl) (ob2 (c := s9) (d := 0) hs9 rfl) ?_
      exact hK42 _ _ _ _ h hdk
    · refine v_iload_n cx dL_name_17 rfl 2 rfl ?_
      refine v_aload_n cx dL_name_18 rfl 0 rfl ?_
      refine v_bipush (v := 97) cx dL_name_19 (by decide) ?_
      refine v_iload_n cx dL_name_21 rfl 1 rfl ?_
      refine v_iconst (v := 2) cx dL_name_22 (by decide) ?_
      refine v_iload_n cx dL_name_23 rfl 3 rfl ?_
      refine v_imul cx dL_name_24 ?_
      refine v_ishr cx dL_name_25 ?_
      refine v_iconst (v := 3) cx dL_name_26 (by decide) ?_
      refine a_low cx (by decide) ⟨(ob1 (c := c9) (d := 0) hc9 hcm rfl), (ob1 (c := s9) (d := 0) hs9 hsm rfl)⟩ (Nat.le_of_ble_eq_true rfl) dL_name_27 (by decide) ?_
      refine v_iadd cx dL_name_30 ?_
      refine v_callSall2 (As := [.ref q_p0, .int ((97 : Int32) + (lowW (x1 >>> (((2 : Int32) * x3) &&& 31)) (3 : Int32) : Int32))]) (mc := 1) (ms := 6) cx (c_L_put l hl g D cy hdk h) k_L_147 (by decide) ⟨rfl, rfl⟩ ⟨(ob1 (c := c9) (d := 1) hc9 hcm rfl), (ob1 (c := s9) (d := 6) hs9 hsm rfl)⟩ rfl rfl (Nat.le_of_ble_eq_true rfl) dL_name_31 (fun v9 w hp => ?_)
      obtain ⟨r_1, z_2, rfl, hdk, h⟩ := hp
      refine v_st (st' := [.int r_1, .int x2]) rfl ?_
      refine v_iadd cx dL_name_34 ?_
      refine v_istore_n (lv' := [(2, .int (x2 + r_1)), (0, .ref q_p0), (1, .int x1), (3, .int x3)]) cx dL_name_35 rfl (by decide) rfl ?_
      refine v_iinc (v := x3 + 1) (k0 := 3) (lv' := [(3, .int (x3 + 1)), (2, .int (x2 + r_1)), (0, .ref q_p0), (1, .int x1)]) cx dL_name_36 rfl rfl (by decide) rfl ?_
      refine v_goto (tgt := 4) cx dL_name_39 (by decide) ?_
      refine v_lv (lv' := [(0, .ref q_p0), (1, .int x1), (2, .int (x2 + r_1)), (3, .int (x3 + 1))]) [2, 3, 1, 0] rfl ?_
      refine v_widen (k9 := (c9 + 1)) (n9 := (s9 + 6)) (ob3 (c := c9) (d := 1) (e := 1) rfl) (ob3 (c := s9) (d := 6) (e := 6) rfl) ?_
      exact ih _ _ (ob4 hc9) (ob4 hs9) _ _ _ _ h hdk
set_option maxHeartbeats 40000000 in
set_option maxRecDepth 100000 in
theorem c_L_name (l : Launch) (hl : l.stackTraces = false) (g : gT) (D : va_G) (cy : Nat → ClassId) {q_p0 : Nat} {z : DS} {x1 : Int32} {w : va_W} {Q : Int32 → DS → Prop} (hdk : DK cy q_p0 z w) (h : p_L_name z x1 Q) : UC l yL_name cL_name 4 (some .int) rm_L_name g D cy [.ref q_p0, .int x1] w (fun v w => ∃ (r : Int32) (z' : DS), v = some (.int r) ∧ DK cy q_p0 z' w ∧ Q r z') := by
  refine UC_of (by decide +kernel) (Nat.le_of_ble_eq_true rfl) [(0, .ref q_p0), (1, .int x1)] rfl (fun p e s m args below meth c A cx => ?_)
  unfold p_L_name at h
  refine v_iconst (v := 0) cx dL_name_0 (by decide) ?_
  refine v_istore_n (lv' := [(2, .int 0), (0, .ref q_p0), (1, .int x1)]) cx dL_name_1 rfl (by decide) rfl ?_
  refine v_iconst (v := 0) cx dL_name_2 (by decide) ?_
  refine v_istore_n (lv' := [(3, .int 0), (2, .int 0), (0, .ref q_p0), (1, .int x1)]) cx dL_name_3 rfl (by decide) rfl ?_
  refine v_lv (lv' := [(0, .ref q_p0), (1, .int x1), (2, .int 0), (3, .int 0)]) [2, 3, 1, 0] rfl ?_
  refine w_L_name_4 cx hl (cm := 3) (sm := 18) (Nat.le_of_ble_eq_true rfl) (Nat.le_of_ble_eq_true rfl) ?_ 3 _ _ (Nat.le_refl _) (Nat.le_refl _) _ _ _ _ h hdk
  · intro x2_3 x3_4 z_5 w h hdk
    refine v_iload_n cx dL_name_42 rfl 2 rfl ?_
    refine v_widen (k9 := 3) (n9 := 18) (Nat.le_of_ble_eq_true rfl) (Nat.le_of_ble_eq_true rfl) ?_
    exact v_ireturn cx rfl dL_name_43 ⟨_, _, rfl, hdk, h⟩

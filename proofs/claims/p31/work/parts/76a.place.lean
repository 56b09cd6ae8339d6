abbrev rm_L_place : Room := { frames := 8, cells := 1, slots := 6, locals := 180 }
set_option maxHeartbeats 40000000 in
set_option maxRecDepth 100000 in
theorem c_L_place (l : Launch) (hl : l.stackTraces = false) (g : gT) (D : va_G) (cy : Nat → ClassId) {q_p0 : Nat} {z : DS} {x1 : Int32} {x2 : Int32} {w : va_W} {Q : Int32 → Prop} (hdk : DK cy q_p0 z w) (h : p_L_place z x1 x2 Q) : UC l yL_place cL_place 4 (some .int) rm_L_place g D cy [.ref q_p0, .int x1, .int x2] w (fun v w => ∃ (r : Int32), v = some (.int r) ∧ DK cy q_p0 z w ∧ Q r) := by
  refine UC_of (by decide +kernel) (Nat.le_of_ble_eq_true rfl) [(0, .ref q_p0), (1, .int x1), (2, .int x2)] rfl (fun p e s m args below meth c A cx => ?_)
  unfold p_L_place at h
  refine v_aload_n cx dL_place_0 rfl 0 rfl ?_
  refine v_iconst (v := 0) cx dL_place_1 (by decide) ?_
  refine v_iload_n cx dL_place_2 rfl 1 rfl ?_
  refine v_iconst (v := 3) cx dL_place_3 (by decide) ?_
  refine v_isub cx dL_place_4 ?_
  refine v_iload_n cx dL_place_5 rfl 2 rfl ?_
  refine a_counting cx hl (by decide) ⟨(Nat.le_of_ble_eq_true rfl), (Nat.le_of_ble_eq_true rfl)⟩ (Nat.le_of_ble_eq_true rfl) dL_place_6 hdk (fun w hdk => ?_)
  refine v_istore_n (lv' := [(3, .int (q_counting z (0 : Int32) (x1 - (3 : Int32)) x2 : Int32)), (0, .ref q_p0), (1, .int x1), (2, .int x2)]) cx dL_place_9 rfl (by decide) rfl ?_
  refine v_iload_n cx dL_place_10 rfl 0 rfl ?_
  refine v_if_ge (tgt := 19) cx dL_place_11 (by decide) h (fun h => ?_) (fun h => ?_)
  · refine v_iload_n cx dL_place_19 rfl 0 rfl ?_
    refine v_widen (k9 := 1) (n9 := 6) (Nat.le_of_ble_eq_true rfl) (Nat.le_of_ble_eq_true rfl) ?_
    exact v_ireturn cx rfl dL_place_20 ⟨_, rfl, hdk, h⟩
  · refine v_bipush (v := 100) cx dL_place_14 (by decide) ?_
    refine v_goto (tgt := 20) cx dL_place_16 (by decide) ?_
    refine v_widen (k9 := 1) (n9 := 6) (Nat.le_of_ble_eq_true rfl) (Nat.le_of_ble_eq_true rfl) ?_
    exact v_ireturn cx rfl dL_place_20 ⟨_, rfl, hdk, h⟩

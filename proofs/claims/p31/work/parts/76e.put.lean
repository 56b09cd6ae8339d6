abbrev rm_L_put : Room := { frames := 8, cells := 1, slots := 6, locals := 125 }
set_option maxHeartbeats 40000000 in
set_option maxRecDepth 100000 in
theorem c_L_put (l : Launch) (hl : l.stackTraces = false) (g : gT) (D : va_G) (cy : Nat → ClassId) {q_p0 : Nat} {z : DS} {x1 : Int32} {w : va_W} {Q : Int32 → DS → Prop} (hdk : DK cy q_p0 z w) (h : p_L_put z x1 Q) : UC l yL_put cL_put 2 (some .int) rm_L_put g D cy [.ref q_p0, .int x1] w (fun v w => ∃ (r : Int32) (z' : DS), v = some (.int r) ∧ DK cy q_p0 z' w ∧ Q r z') := by
  refine UC_of (by decide +kernel) (Nat.le_of_ble_eq_true rfl) [(0, .ref q_p0), (1, .int x1)] rfl (fun p e s m args below meth c A cx => ?_)
  unfold p_L_put at h
  refine v_aload_n cx dL_put_0 rfl 0 rfl ?_
  refine v_iload_n cx dL_put_1 rfl 1 rfl ?_
  refine a_type cx hl (by decide) ⟨(Nat.le_of_ble_eq_true rfl), (Nat.le_of_ble_eq_true rfl)⟩ (Nat.le_of_ble_eq_true rfl) dL_put_2 hdk (fun r_1 z_2 w hS hI hdk => ?_)
  have h := h r_1 z_2 hS hI
  refine v_if_le (tgt := 12) cx dL_put_5 (by decide) h (fun h => ?_) (fun h => ?_)
  · refine v_sipush (v := 1000) cx dL_put_12 (by decide) ?_
    refine v_widen (k9 := 1) (n9 := 6) (Nat.le_of_ble_eq_true rfl) (Nat.le_of_ble_eq_true rfl) ?_
    exact v_ireturn cx rfl dL_put_15 ⟨_, _, rfl, hdk, h⟩
  · refine v_iconst (v := 1) cx dL_put_8 (by decide) ?_
    refine v_goto (tgt := 15) cx dL_put_9 (by decide) ?_
    refine v_widen (k9 := 1) (n9 := 6) (Nat.le_of_ble_eq_true rfl) (Nat.le_of_ble_eq_true rfl) ?_
    exact v_ireturn cx rfl dL_put_15 ⟨_, _, rfl, hdk, h⟩

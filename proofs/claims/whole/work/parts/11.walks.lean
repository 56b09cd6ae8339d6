abbrev rm_X3_copyFrom : Room := { frames := 1, cells := 0, slots := 0, locals := 40 }
set_option maxHeartbeats 4000000 in
set_option maxRecDepth 100000 in
theorem c_X3_copyFrom (l : Launch) (g : gT) (D : va_G) (cy : Nat → ClassId) (q_t q_t_keys q_t_sizes q_t_qualities q_t_lengths q_t_ranges q_t_names q_t_weights q_t_ties q_p1 q_p1_keys q_p1_sizes q_p1_qualities q_p1_lengths q_p1_ranges q_p1_names q_p1_weights q_p1_ties : Nat) {t_variants : Int32} {t_keys : Nat → Int64} {t_sizes : Nat → Int32} {t_qualities : Nat → Int32} {t_lengths : Nat → Int32} {t_ranges : Nat → Int64} {t_names : Nat → Int32} {t_weights : Nat → Int32} {t_ties : Nat → Int32} {p1_variants : Int32} {p1_keys : Nat → Int64} {p1_sizes : Nat → Int32} {p1_qualities : Nat → Int32} {p1_lengths : Nat → Int32} {p1_ranges : Nat → Int64} {p1_names : Nat → Int32} {p1_weights : Nat → Int32} {p1_ties : Nat → Int32} {N : Nat} {Q : Int32 → (Nat → Int64) → (Nat → Int32) → (Nat → Int32) → (Nat → Int32) → (Nat → Int64) → (Nat → Int32) → (Nat → Int32) → (Nat → Int32) → Prop} (h : p_X3_copyFrom N t_variants t_keys t_sizes t_qualities t_lengths t_ranges t_names t_weights t_ties p1_variants p1_keys p1_sizes p1_qualities p1_lengths p1_ranges p1_names p1_weights p1_ties Q) : UC l yX3_copyFrom cX3_copyFrom 2 none rm_X3_copyFrom g D cy [.ref q_t, .ref q_p1] [(q_t, .inr (3, [.int t_variants, .ref q_t_keys, .ref q_t_sizes, .ref q_t_qualities, .ref q_t_lengths, .ref q_t_ranges, .ref q_t_names, .ref q_t_weights, .ref q_t_ties])), (q_t_keys, .inl (cy 1, 48, .inr (.inl t_keys))), (q_t_sizes, .inl (cy 0, 16, .inl t_sizes)), (q_t_qualities, .inl (cy 0, 16, .inl t_qualities)), (q_t_lengths, .inl (cy 0, 6, .inl t_lengths)), (q_t_ranges, .inl (cy 1, 60, .inr (.inl t_ranges))), (q_t_names, .inl (cy 0, 60, .inl t_names)), (q_t_weights, .inl (cy 0, 60, .inl t_weights)), (q_t_ties, .inl (cy 0, 3, .inl t_ties)), (q_p1, .inr (3, [.int p1_variants, .ref q_p1_keys, .ref q_p1_sizes, .ref q_p1_qualities, .ref q_p1_lengths, .ref q_p1_ranges, .ref q_p1_names, .ref q_p1_weights, .ref q_p1_ties])), (q_p1_keys, .inl (cy 1, 48, .inr (.inl p1_keys))), (q_p1_sizes, .inl (cy 0, 16, .inl p1_sizes)), (q_p1_qualities, .inl (cy 0, 16, .inl p1_qualities)), (q_p1_lengths, .inl (cy 0, 6, .inl p1_lengths)), (q_p1_ranges, .inl (cy 1, 60, .inr (.inl p1_ranges))), (q_p1_names, .inl (cy 0, 60, .inl p1_names)), (q_p1_weights, .inl (cy 0, 60, .inl p1_weights)), (q_p1_ties, .inl (cy 0, 3, .inl p1_ties))] (fun v w => ∃ (t_variants' : Int32) (t_keys' : Nat → Int64) (t_sizes' : Nat → Int32) (t_qualities' : Nat → Int32) (t_lengths' : Nat → Int32) (t_ranges' : Nat → Int64) (t_names' : Nat → Int32) (t_weights' : Nat → Int32) (t_ties' : Nat → Int32), v = none ∧ w = [(q_t, .inr (3, [.int t_variants', .ref q_t_keys, .ref q_t_sizes, .ref q_t_qualities, .ref q_t_lengths, .ref q_t_ranges, .ref q_t_names, .ref q_t_weights, .ref q_t_ties])), (q_t_keys, .inl (cy 1, 48, .inr (.inl t_keys'))), (q_t_sizes, .inl (cy 0, 16, .inl t_sizes')), (q_t_qualities, .inl (cy 0, 16, .inl t_qualities')), (q_t_lengths, .inl (cy 0, 6, .inl t_lengths')), (q_t_ranges, .inl (cy 1, 60, .inr (.inl t_ranges'))), (q_t_names, .inl (cy 0, 60, .inl t_names')), (q_t_weights, .inl (cy 0, 60, .inl t_weights')), (q_t_ties, .inl (cy 0, 3, .inl t_ties')), (q_p1, .inr (3, [.int p1_variants, .ref q_p1_keys, .ref q_p1_sizes, .ref q_p1_qualities, .ref q_p1_lengths, .ref q_p1_ranges, .ref q_p1_names, .ref q_p1_weights, .ref q_p1_ties])), (q_p1_keys, .inl (cy 1, 48, .inr (.inl p1_keys))), (q_p1_sizes, .inl (cy 0, 16, .inl p1_sizes)), (q_p1_qualities, .inl (cy 0, 16, .inl p1_qualities)), (q_p1_lengths, .inl (cy 0, 6, .inl p1_lengths)), (q_p1_ranges, .inl (cy 1, 60, .inr (.inl p1_ranges))), (q_p1_names, .inl (cy 0, 60, .inl p1_names)), (q_p1_weights, .inl (cy 0, 60, .inl p1_weights)), (q_p1_ties, .inl (cy 0, 3, .inl p1_ties))] ∧ Q t_variants' t_keys' t_sizes' t_qualities' t_lengths' t_ranges' t_names' t_weights' t_ties') := by
  refine UC_of (by decide +kernel) (Nat.le_of_ble_eq_true rfl) [(0, .ref q_t), (1, .ref q_p1)] rfl (fun p e s m args below meth c A cx => ?_)
  unfold p_X3_copyFrom at h
  refine v_aload_n cx dX3_copyFrom_0 rfl 0 rfl ?_
  refine v_aload_n cx dX3_copyFrom_1 rfl 1 rfl ?_
  refine g_X3_37 cx dX3_copyFrom_2 9 rfl rfl ?_
  refine p_X3_37 (ws' := [(q_t, .inr (3, [.int p1_variants, .ref q_t_keys, .ref q_t_sizes, .ref q_t_qualities, .ref q_t_lengths, .ref q_t_ranges, .ref q_t_names, .ref q_t_weights, .ref q_t_ties])), (q_t_keys, .inl (cy 1, 48, .inr (.inl t_keys))), (q_t_sizes, .inl (cy 0, 16, .inl t_sizes)), (q_t_qualities, .inl (cy 0, 16, .inl t_qualities)), (q_t_lengths, .inl (cy 0, 6, .inl t_lengths)), (q_t_ranges, .inl (cy 1, 60, .inr (.inl t_ranges))), (q_t_names, .inl (cy 0, 60, .inl t_names)), (q_t_weights, .inl (cy 0, 60, .inl t_weights)), (q_t_ties, .inl (cy 0, 3, .inl t_ties)), (q_p1, .inr (3, [.int p1_variants, .ref q_p1_keys, .ref q_p1_sizes, .ref q_p1_qualities, .ref q_p1_lengths, .ref q_p1_ranges, .ref q_p1_names, .ref q_p1_weights, .ref q_p1_ties])), (q_p1_keys, .inl (cy 1, 48, .inr (.inl p1_keys))), (q_p1_sizes, .inl (cy 0, 16, .inl p1_sizes)), (q_p1_qualities, .inl (cy 0, 16, .inl p1_qualities)), (q_p1_lengths, .inl (cy 0, 6, .inl p1_lengths)), (q_p1_ranges, .inl (cy 1, 60, .inr (.inl p1_ranges))), (q_p1_names, .inl (cy 0, 60, .inl p1_names)), (q_p1_weights, .inl (cy 0, 60, .inl p1_weights)), (q_p1_ties, .inl (cy 0, 3, .inl p1_ties))]) cx dX3_copyFrom_5 0 rfl rfl rfl (Nat.le_of_ble_eq_true rfl) rfl ?_
  refine v_aload_n cx dX3_copyFrom_8 rfl 1 rfl ?_
  refine g_X3_9 cx dX3_copyFrom_9 9 rfl rfl ?_
  refine v_iconst (v := 0) cx dX3_copyFrom_12 (by decide) ?_
  refine v_aload_n cx dX3_copyFrom_13 rfl 0 rfl ?_
  refine g_X3_9 cx dX3_copyFrom_14 0 rfl rfl ?_
  refine v_iconst (v := 0) cx dX3_copyFrom_17 (by decide) ?_
  refine v_bipush (v := 48) cx dX3_copyFrom_18 (by decide) ?_
  refine v_copyl (ws' := [(q_t, .inr (3, [.int p1_variants, .ref q_t_keys, .ref q_t_sizes, .ref q_t_qualities, .ref q_t_lengths, .ref q_t_ranges, .ref q_t_names, .ref q_t_weights, .ref q_t_ties])), (q_t_keys, .inl (cy 1, 48, .inr (.inl (va_cpy p1_keys t_keys (Int32.toNatClampNeg 0) (Int32.toNatClampNeg 0) (Int32.toNatClampNeg 48))))), (q_t_sizes, .inl (cy 0, 16, .inl t_sizes)), (q_t_qualities, .inl (cy 0, 16, .inl t_qualities)), (q_t_lengths, .inl (cy 0, 6, .inl t_lengths)), (q_t_ranges, .inl (cy 1, 60, .inr (.inl t_ranges))), (q_t_names, .inl (cy 0, 60, .inl t_names)), (q_t_weights, .inl (cy 0, 60, .inl t_weights)), (q_t_ties, .inl (cy 0, 3, .inl t_ties)), (q_p1, .inr (3, [.int p1_variants, .ref q_p1_keys, .ref q_p1_sizes, .ref q_p1_qualities, .ref q_p1_lengths, .ref q_p1_ranges, .ref q_p1_names, .ref q_p1_weights, .ref q_p1_ties])), (q_p1_keys, .inl (cy 1, 48, .inr (.inl p1_keys))), (q_p1_sizes, .inl (cy 0, 16, .inl p1_sizes)), (q_p1_qualities, .inl (cy 0, 16, .inl p1_qualities)), (q_p1_lengths, .inl (cy 0, 6, .inl p1_lengths)), (q_p1_ranges, .inl (cy 1, 60, .inr (.inl p1_ranges))), (q_p1_names, .inl (cy 0, 60, .inl p1_names)), (q_p1_weights, .inl (cy 0, 60, .inl p1_weights)), (q_p1_ties, .inl (cy 0, 3, .inl p1_ties))]) cx wM_X3_41 dX3_copyFrom_20 10 1 rfl rfl (by decide) (by decide) (by decide) (by decide) (by decide) (by decide) (by decide +kernel) rfl ?_
  refine v_aload_n cx dX3_copyFrom_23 rfl 1 rfl ?_
  refine g_X3_15 cx dX3_copyFrom_24 9 rfl rfl ?_
  refine v_iconst (v := 0) cx dX3_copyFrom_27 (by decide) ?_
  refine v_aload_n cx dX3_copyFrom_28 rfl 0 rfl ?_
  refine g_X3_15 cx dX3_copyFrom_29 0 rfl rfl ?_
  refine v_iconst (v := 0) cx dX3_copyFrom_32 (by decide) ?_
  refine v_bipush (v := 16) cx dX3_copyFrom_33 (by decide) ?_
  refine v_copyi (ws' := [(q_t, .inr (3, [.int p1_variants, .ref q_t_keys, .ref q_t_sizes, .ref q_t_qualities, .ref q_t_lengths, .ref q_t_ranges, .ref q_t_names, .ref q_t_weights, .ref q_t_ties])), (q_t_keys, .inl (cy 1, 48, .inr (.inl (va_cpy p1_keys t_keys (Int32.toNatClampNeg 0) (Int32.toNatClampNeg 0) (Int32.toNatClampNeg 48))))), (q_t_sizes, .inl (cy 0, 16, .inl (va_cpy p1_sizes t_sizes (Int32.toNatClampNeg 0) (Int32.toNatClampNeg 0) (Int32.toNatClampNeg 16)))), (q_t_qualities, .inl (cy 0, 16, .inl t_qualities)), (q_t_lengths, .inl (cy 0, 6, .inl t_lengths)), (q_t_ranges, .inl (cy 1, 60, .inr (.inl t_ranges))), (q_t_names, .inl (cy 0, 60, .inl t_names)), (q_t_weights, .inl (cy 0, 60, .inl t_weights)), (q_t_ties, .inl (cy 0, 3, .inl t_ties)), (q_p1, .inr (3, [.int p1_variants, .ref q_p1_keys, .ref q_p1_sizes, .ref q_p1_qualities, .ref q_p1_lengths, .ref q_p1_ranges, .ref q_p1_names, .ref q_p1_weights, .ref q_p1_ties])), (q_p1_keys, .inl (cy 1, 48, .inr (.inl p1_keys))), (q_p1_sizes, .inl (cy 0, 16, .inl p1_sizes)), (q_p1_qualities, .inl (cy 0, 16, .inl p1_qualities)), (q_p1_lengths, .inl (cy 0, 6, .inl p1_lengths)), (q_p1_ranges, .inl (cy 1, 60, .inr (.inl p1_ranges))), (q_p1_names, .inl (cy 0, 60, .inl p1_names)), (q_p1_weights, .inl (cy 0, 60, .inl p1_weights)), (q_p1_ties, .inl (cy 0, 3, .inl p1_ties))]) cx wM_X3_41 dX3_copyFrom_35 11 2 rfl rfl (by decide) (by decide) (by decide) (by decide) (by decide) (by decide) (by decide +kernel) rfl ?_
  refine v_aload_n cx dX3_copyFrom_38 rfl 1 rfl ?_
  refine g_X3_19 cx dX3_copyFrom_39 9 rfl rfl ?_
  refine v_iconst (v := 0) cx dX3_copyFrom_42 (by decide) ?_
  refine v_aload_n cx dX3_copyFrom_43 rfl 0 rfl ?_
  refine g_X3_19 cx dX3_copyFrom_44 0 rfl rfl ?_
  refine v_iconst (v := 0) cx dX3_copyFrom_47 (by decide) ?_
  refine v_bipush (v := 16) cx dX3_copyFrom_48 (by decide) ?_
  refine v_copyi (ws' := [(q_t, .inr (3, [.int p1_variants, .ref q_t_keys, .ref q_t_sizes, .ref q_t_qualities, .ref q_t_lengths, .ref q_t_ranges, .ref q_t_names, .ref q_t_weights, .ref q_t_ties])), (q_t_keys, .inl (cy 1, 48, .inr (.inl (va_cpy p1_keys t_keys (Int32.toNatClampNeg 0) (Int32.toNatClampNeg 0) (Int32.toNatClampNeg 48))))), (q_t_sizes, .inl (cy 0, 16, .inl (va_cpy p1_sizes t_sizes (Int32.toNatClampNeg 0) (Int32.toNatClampNeg 0) (Int32.toNatClampNeg 16)))), (q_t_qualities, .inl (cy 0, 16, .inl (va_cpy p1_qualities t_qualities (Int32.toNatClampNeg 0) (Int32.toNatClampNeg 0) (Int32.toNatClampNeg 16)))), (q_t_lengths, .inl (cy 0, 6, .inl t_lengths)), (q_t_ranges, .inl (cy 1, 60, .inr (.inl t_ranges))), (q_t_names, .inl (cy 0, 60, .inl t_names)), (q_t_weights, .inl (cy 0, 60, .inl t_weights)), (q_t_ties, .inl (cy 0, 3, .inl t_ties)), (q_p1, .inr (3, [.int p1_variants, .ref q_p1_keys, .ref q_p1_sizes, .ref q_p1_qualities, .ref q_p1_lengths, .ref q_p1_ranges, .ref q_p1_names, .ref q_p1_weights, .ref q_p1_ties])), (q_p1_keys, .inl (cy 1, 48, .inr (.inl p1_keys))), (q_p1_sizes, .inl (cy 0, 16, .inl p1_sizes)), (q_p1_qualities, .inl (cy 0, 16, .inl p1_qualities)), (q_p1_lengths, .inl (cy 0, 6, .inl p1_lengths)), (q_p1_ranges, .inl (cy 1, 60, .inr (.inl p1_ranges))), (q_p1_names, .inl (cy 0, 60, .inl p1_names)), (q_p1_weights, .inl (cy 0, 60, .inl p1_weights)), (q_p1_ties, .inl (cy 0, 3, .inl p1_ties))]) cx wM_X3_41 dX3_copyFrom_50 12 3 rfl rfl (by decide) (by decide) (by decide) (by decide) (by decide) (by decide) (by decide +kernel) rfl ?_
  refine v_aload_n cx dX3_copyFrom_53 rfl 1 rfl ?_
  refine g_X3_22 cx dX3_copyFrom_54 9 rfl rfl ?_
  refine v_iconst (v := 0) cx dX3_copyFrom_57 (by decide) ?_
  refine v_aload_n cx dX3_copyFrom_58 rfl 0 rfl ?_
  refine g_X3_22 cx dX3_copyFrom_59 0 rfl rfl ?_
  refine v_iconst (v := 0) cx dX3_copyFrom_62 (by decide) ?_
  refine v_bipush (v := 6) cx dX3_copyFrom_63 (by decide) ?_
  refine v_copyi (ws' := [(q_t, .inr (3, [.int p1_variants, .ref q_t_keys, .ref q_t_sizes, .ref q_t_qualities, .ref q_t_lengths, .ref q_t_ranges, .ref q_t_names, .ref q_t_weights, .ref q_t_ties])), (q_t_keys, .inl (cy 1, 48, .inr (.inl (va_cpy p1_keys t_keys (Int32.toNatClampNeg 0) (Int32.toNatClampNeg 0) (Int32.toNatClampNeg 48))))), (q_t_sizes, .inl (cy 0, 16, .inl (va_cpy p1_sizes t_sizes (Int32.toNatClampNeg 0) (Int32.toNatClampNeg 0) (Int32.toNatClampNeg 16)))), (q_t_qualities, .inl (cy 0, 16, .inl (va_cpy p1_qualities t_qualities (Int32.toNatClampNeg 0) (Int32.toNatClampNeg 0) (Int32.toNatClampNeg 16)))), (q_t_lengths, .inl (cy 0, 6, .inl (va_cpy p1_lengths t_lengths (Int32.toNatClampNeg 0) (Int32.toNatClampNeg 0) (Int32.toNatClampNeg 6)))), (q_t_ranges, .inl (cy 1, 60, .inr (.inl t_ranges))), (q_t_names, .inl (cy 0, 60, .inl t_names)), (q_t_weights, .inl (cy 0, 60, .inl t_weights)), (q_t_ties, .inl (cy 0, 3, .inl t_ties)), (q_p1, .inr (3, [.int p1_variants, .ref q_p1_keys, .ref q_p1_sizes, .ref q_p1_qualities, .ref q_p1_lengths, .ref q_p1_ranges, .ref q_p1_names, .ref q_p1_weights, .ref q_p1_ties])), (q_p1_keys, .inl (cy 1, 48, .inr (.inl p1_keys))), (q_p1_sizes, .inl (cy 0, 16, .inl p1_sizes)), (q_p1_qualities, .inl (cy 0, 16, .inl p1_qualities)), (q_p1_lengths, .inl (cy 0, 6, .inl p1_lengths)), (q_p1_ranges, .inl (cy 1, 60, .inr (.inl p1_ranges))), (q_p1_names, .inl (cy 0, 60, .inl p1_names)), (q_p1_weights, .inl (cy 0, 60, .inl p1_weights)), (q_p1_ties, .inl (cy 0, 3, .inl p1_ties))]) cx wM_X3_41 dX3_copyFrom_65 13 4 rfl rfl (by decide) (by decide) (by decide) (by decide) (by decide) (by decide) (by decide +kernel) rfl ?_
  refine v_aload_n cx dX3_copyFrom_68 rfl 1 rfl ?_
  refine g_X3_25 cx dX3_copyFrom_69 9 rfl rfl ?_
  refine v_iconst (v := 0) cx dX3_copyFrom_72 (by decide) ?_
  refine v_aload_n cx dX3_copyFrom_73 rfl 0 rfl ?_
  refine g_X3_25 cx dX3_copyFrom_74 0 rfl rfl ?_
  refine v_iconst (v := 0) cx dX3_copyFrom_77 (by decide) ?_
  refine v_bipush (v := 60) cx dX3_copyFrom_78 (by decide) ?_
  refine v_copyl (ws' := [(q_t, .inr (3, [.int p1_variants, .ref q_t_keys, .ref q_t_sizes, .ref q_t_qualities, .ref q_t_lengths, .ref q_t_ranges, .ref q_t_names, .ref q_t_weights, .ref q_t_ties])), (q_t_keys, .inl (cy 1, 48, .inr (.inl (va_cpy p1_keys t_keys (Int32.toNatClampNeg 0) (Int32.toNatClampNeg 0) (Int32.toNatClampNeg 48))))), (q_t_sizes, .inl (cy 0, 16, .inl (va_cpy p1_sizes t_sizes (Int32.toNatClampNeg 0) (Int32.toNatClampNeg 0) (Int32.toNatClampNeg 16)))), (q_t_qualities, .inl (cy 0, 16, .inl (va_cpy p1_qualities t_qualities (Int32.toNatClampNeg 0) (Int32.toNatClampNeg 0) (Int32.toNatClampNeg 16)))), (q_t_lengths, .inl (cy 0, 6, .inl (va_cpy p1_lengths t_lengths (Int32.toNatClampNeg 0) (Int32.toNatClampNeg 0) (Int32.toNatClampNeg 6)))), (q_t_ranges, .inl (cy 1, 60, .inr (.inl (va_cpy p1_ranges t_ranges (Int32.toNatClampNeg 0) (Int32.toNatClampNeg 0) (Int32.toNatClampNeg 60))))), (q_t_names, .inl (cy 0, 60, .inl t_names)), (q_t_weights, .inl (cy 0, 60, .inl t_weights)), (q_t_ties, .inl (cy 0, 3, .inl t_ties)), (q_p1, .inr (3, [.int p1_variants, .ref q_p1_keys, .ref q_p1_sizes, .ref q_p1_qualities, .ref q_p1_lengths, .ref q_p1_ranges, .ref q_p1_names, .ref q_p1_weights, .ref q_p1_ties])), (q_p1_keys, .inl (cy 1, 48, .inr (.inl p1_keys))), (q_p1_sizes, .inl (cy 0, 16, .inl p1_sizes)), (q_p1_qualities, .inl (cy 0, 16, .inl p1_qualities)), (q_p1_lengths, .inl (cy 0, 6, .inl p1_lengths)), (q_p1_ranges, .inl (cy 1, 60, .inr (.inl p1_ranges))), (q_p1_names, .inl (cy 0, 60, .inl p1_names)), (q_p1_weights, .inl (cy 0, 60, .inl p1_weights)), (q_p1_ties, .inl (cy 0, 3, .inl p1_ties))]) cx wM_X3_41 dX3_copyFrom_80 14 5 rfl rfl (by decide) (by decide) (by decide) (by decide) (by decide) (by decide) (by decide +kernel) rfl ?_
  refine v_aload_n cx dX3_copyFrom_83 rfl 1 rfl ?_
  refine g_X3_28 cx dX3_copyFrom_84 9 rfl rfl ?_
  refine v_iconst (v := 0) cx dX3_copyFrom_87 (by decide) ?_
  refine v_aload_n cx dX3_copyFrom_88 rfl 0 rfl ?_
  refine g_X3_28 cx dX3_copyFrom_89 0 rfl rfl ?_
  refine v_iconst (v := 0) cx dX3_copyFrom_92 (by decide) ?_
  refine v_bipush (v := 60) cx dX3_copyFrom_93 (by decide) ?_
  refine v_copyi (ws' := [(q_t, .inr (3, [.int p1_variants, .ref q_t_keys, .ref q_t_sizes, .ref q_t_qualities, .ref q_t_lengths, .ref q_t_ranges, .ref q_t_names, .ref q_t_weights, .ref q_t_ties])), (q_t_keys, .inl (cy 1, 48, .inr (.inl (va_cpy p1_keys t_keys (Int32.toNatClampNeg 0) (Int32.toNatClampNeg 0) (Int32.toNatClampNeg 48))))), (q_t_sizes, .inl (cy 0, 16, .inl (va_cpy p1_sizes t_sizes (Int32.toNatClampNeg 0) (Int32.toNatClampNeg 0) (Int32.toNatClampNeg 16)))), (q_t_qualities, .inl (cy 0, 16, .inl (va_cpy p1_qualities t_qualities (Int32.toNatClampNeg 0) (Int32.toNatClampNeg 0) (Int32.toNatClampNeg 16)))), (q_t_lengths, .inl (cy 0, 6, .inl (va_cpy p1_lengths t_lengths (Int32.toNatClampNeg 0) (Int32.toNatClampNeg 0) (Int32.toNatClampNeg 6)))), (q_t_ranges, .inl (cy 1, 60, .inr (.inl (va_cpy p1_ranges t_ranges (Int32.toNatClampNeg 0) (Int32.toNatClampNeg 0) (Int32.toNatClampNeg 60))))), (q_t_names, .inl (cy 0, 60, .inl (va_cpy p1_names t_names (Int32.toNatClampNeg 0) (Int32.toNatClampNeg 0) (Int32.toNatClampNeg 60)))), (q_t_weights, .inl (cy 0, 60, .inl t_weights)), (q_t_ties, .inl (cy 0, 3, .inl t_ties)), (q_p1, .inr (3, [.int p1_variants, .ref q_p1_keys, .ref q_p1_sizes, .ref q_p1_qualities, .ref q_p1_lengths, .ref q_p1_ranges, .ref q_p1_names, .ref q_p1_weights, .ref q_p1_ties])), (q_p1_keys, .inl (cy 1, 48, .inr (.inl p1_keys))), (q_p1_sizes, .inl (cy 0, 16, .inl p1_sizes)), (q_p1_qualities, .inl (cy 0, 16, .inl p1_qualities)), (q_p1_lengths, .inl (cy 0, 6, .inl p1_lengths)), (q_p1_ranges, .inl (cy 1, 60, .inr (.inl p1_ranges))), (q_p1_names, .inl (cy 0, 60, .inl p1_names)), (q_p1_weights, .inl (cy 0, 60, .inl p1_weights)), (q_p1_ties, .inl (cy 0, 3, .inl p1_ties))]) cx wM_X3_41 dX3_copyFrom_95 15 6 rfl rfl (by decide) (by decide) (by decide) (by decide) (by decide) (by decide) (by decide +kernel) rfl ?_
  refine v_aload_n cx dX3_copyFrom_98 rfl 1 rfl ?_
  refine g_X3_31 cx dX3_copyFrom_99 9 rfl rfl ?_
  refine v_iconst (v := 0) cx dX3_copyFrom_102 (by decide) ?_
  refine v_aload_n cx dX3_copyFrom_103 rfl 0 rfl ?_
  refine g_X3_31 cx dX3_copyFrom_104 0 rfl rfl ?_
  refine v_iconst (v := 0) cx dX3_copyFrom_107 (by decide) ?_
  refine v_bipush (v := 60) cx dX3_copyFrom_108 (by decide) ?_
  refine v_copyi (ws' := [(q_t, .inr (3, [.int p1_variants, .ref q_t_keys, .ref q_t_sizes, .ref q_t_qualities, .ref q_t_lengths, .ref q_t_ranges, .ref q_t_names, .ref q_t_weights, .ref q_t_ties])), (q_t_keys, .inl (cy 1, 48, .inr (.inl (va_cpy p1_keys t_keys (Int32.toNatClampNeg 0) (Int32.toNatClampNeg 0) (Int32.toNatClampNeg 48))))), (q_t_sizes, .inl (cy 0, 16, .inl (va_cpy p1_sizes t_sizes (Int32.toNatClampNeg 0) (Int32.toNatClampNeg 0) (Int32.toNatClampNeg 16)))), (q_t_qualities, .inl (cy 0, 16, .inl (va_cpy p1_qualities t_qualities (Int32.toNatClampNeg 0) (Int32.toNatClampNeg 0) (Int32.toNatClampNeg 16)))), (q_t_lengths, .inl (cy 0, 6, .inl (va_cpy p1_lengths t_lengths (Int32.toNatClampNeg 0) (Int32.toNatClampNeg 0) (Int32.toNatClampNeg 6)))), (q_t_ranges, .inl (cy 1, 60, .inr (.inl (va_cpy p1_ranges t_ranges (Int32.toNatClampNeg 0) (Int32.toNatClampNeg 0) (Int32.toNatClampNeg 60))))), (q_t_names, .inl (cy 0, 60, .inl (va_cpy p1_names t_names (Int32.toNatClampNeg 0) (Int32.toNatClampNeg 0) (Int32.toNatClampNeg 60)))), (q_t_weights, .inl (cy 0, 60, .inl (va_cpy p1_weights t_weights (Int32.toNatClampNeg 0) (Int32.toNatClampNeg 0) (Int32.toNatClampNeg 60)))), (q_t_ties, .inl (cy 0, 3, .inl t_ties)), (q_p1, .inr (3, [.int p1_variants, .ref q_p1_keys, .ref q_p1_sizes, .ref q_p1_qualities, .ref q_p1_lengths, .ref q_p1_ranges, .ref q_p1_names, .ref q_p1_weights, .ref q_p1_ties])), (q_p1_keys, .inl (cy 1, 48, .inr (.inl p1_keys))), (q_p1_sizes, .inl (cy 0, 16, .inl p1_sizes)), (q_p1_qualities, .inl (cy 0, 16, .inl p1_qualities)), (q_p1_lengths, .inl (cy 0, 6, .inl p1_lengths)), (q_p1_ranges, .inl (cy 1, 60, .inr (.inl p1_ranges))), (q_p1_names, .inl (cy 0, 60, .inl p1_names)), (q_p1_weights, .inl (cy 0, 60, .inl p1_weights)), (q_p1_ties, .inl (cy 0, 3, .inl p1_ties))]) cx wM_X3_41 dX3_copyFrom_110 16 7 rfl rfl (by decide) (by decide) (by decide) (by decide) (by decide) (by decide) (by decide +kernel) rfl ?_
  refine v_aload_n cx dX3_copyFrom_113 rfl 1 rfl ?_
  refine g_X3_34 cx dX3_copyFrom_114 9 rfl rfl ?_
  refine v_iconst (v := 0) cx dX3_copyFrom_117 (by decide) ?_
  refine v_aload_n cx dX3_copyFrom_118 rfl 0 rfl ?_
  refine g_X3_34 cx dX3_copyFrom_119 0 rfl rfl ?_
  refine v_iconst (v := 0) cx dX3_copyFrom_122 (by decide) ?_
  refine v_iconst (v := 3) cx dX3_copyFrom_123 (by decide) ?_
  refine v_copyi (ws' := [(q_t, .inr (3, [.int p1_variants, .ref q_t_keys, .ref q_t_sizes, .ref q_t_qualities, .ref q_t_lengths, .ref q_t_ranges, .ref q_t_names, .ref q_t_weights, .ref q_t_ties])), (q_t_keys, .inl (cy 1, 48, .inr (.inl (va_cpy p1_keys t_keys (Int32.toNatClampNeg 0) (Int32.toNatClampNeg 0) (Int32.toNatClampNeg 48))))), (q_t_sizes, .inl (cy 0, 16, .inl (va_cpy p1_sizes t_sizes (Int32.toNatClampNeg 0) (Int32.toNatClampNeg 0) (Int32.toNatClampNeg 16)))), (q_t_qualities, .inl (cy 0, 16, .inl (va_cpy p1_qualities t_qualities (Int32.toNatClampNeg 0) (Int32.toNatClampNeg 0) (Int32.toNatClampNeg 16)))), (q_t_lengths, .inl (cy 0, 6, .inl (va_cpy p1_lengths t_lengths (Int32.toNatClampNeg 0) (Int32.toNatClampNeg 0) (Int32.toNatClampNeg 6)))), (q_t_ranges, .inl (cy 1, 60, .inr (.inl (va_cpy p1_ranges t_ranges (Int32.toNatClampNeg 0) (Int32.toNatClampNeg 0) (Int32.toNatClampNeg 60))))), (q_t_names, .inl (cy 0, 60, .inl (va_cpy p1_names t_names (Int32.toNatClampNeg 0) (Int32.toNatClampNeg 0) (Int32.toNatClampNeg 60)))), (q_t_weights, .inl (cy 0, 60, .inl (va_cpy p1_weights t_weights (Int32.toNatClampNeg 0) (Int32.toNatClampNeg 0) (Int32.toNatClampNeg 60)))), (q_t_ties, .inl (cy 0, 3, .inl (va_cpy p1_ties t_ties (Int32.toNatClampNeg 0) (Int32.toNatClampNeg 0) (Int32.toNatClampNeg 3)))), (q_p1, .inr (3, [.int p1_variants, .ref q_p1_keys, .ref q_p1_sizes, .ref q_p1_qualities, .ref q_p1_lengths, .ref q_p1_ranges, .ref q_p1_names, .ref q_p1_weights, .ref q_p1_ties])), (q_p1_keys, .inl (cy 1, 48, .inr (.inl p1_keys))), (q_p1_sizes, .inl (cy 0, 16, .inl p1_sizes)), (q_p1_qualities, .inl (cy 0, 16, .inl p1_qualities)), (q_p1_lengths, .inl (cy 0, 6, .inl p1_lengths)), (q_p1_ranges, .inl (cy 1, 60, .inr (.inl p1_ranges))), (q_p1_names, .inl (cy 0, 60, .inl p1_names)), (q_p1_weights, .inl (cy 0, 60, .inl p1_weights)), (q_p1_ties, .inl (cy 0, 3, .inl p1_ties))]) cx wM_X3_41 dX3_copyFrom_124 17 8 rfl rfl (by decide) (by decide) (by decide) (by decide) (by decide) (by decide) (by decide +kernel) rfl ?_
  exact v_return cx dX3_copyFrom_127 ⟨_, _, _, _, _, _, _, _, _, rfl, rfl, h⟩
abbrev rm_X3_hasVariant : Room := { frames := 0, cells := 0, slots := 0, locals := 0 }
set_option maxHeartbeats 4000000 in
set_option maxRecDepth 100000 in
theorem c_X3_hasVariant (l : Launch) (g : gT) (D : va_G) (cy : Nat → ClassId) (q_t q_t_keys q_t_sizes q_t_qualities q_t_lengths q_t_ranges q_t_names q_t_weights q_t_ties : Nat) {t_variants : Int32} {x1 : Int32} {N : Nat} {Q : Int32 → Prop} (h : p_X3_hasVariant N t_variants x1 Q) : UC l yX3_hasVariant cX3_hasVariant 2 (some .boolean) rm_X3_hasVariant g D cy [.ref q_t, .int x1] [(q_t, .inr (3, [.int t_variants, .ref q_t_keys, .ref q_t_sizes, .ref q_t_qualities, .ref q_t_lengths, .ref q_t_ranges, .ref q_t_names, .ref q_t_weights, .ref q_t_ties]))] (fun v w => w = [(q_t, .inr (3, [.int t_variants, .ref q_t_keys, .ref q_t_sizes, .ref q_t_qualities, .ref q_t_lengths, .ref q_t_ranges, .ref q_t_names, .ref q_t_weights, .ref q_t_ties]))] ∧ ∃ r : Int32, v = some (.int r) ∧ Q r) := by
  refine UC_of (by decide +kernel) (Nat.le_of_ble_eq_true rfl) [(0, .ref q_t), (1, .int x1)] rfl (fun p e s m args below meth c A cx => ?_)
  unfold p_X3_hasVariant at h
  refine v_iload_n cx dX3_hasVariant_0 rfl 1 rfl ?_
  refine v_if_lt (tgt := 16) cx dX3_hasVariant_1 (by decide) h (fun h => ?_) (fun h => ?_)
  · refine v_iconst (v := 0) cx dX3_hasVariant_16 (by decide) ?_
    exact v_ireturn cx rfl dX3_hasVariant_17 ⟨rfl, _, rfl, h⟩
  · refine v_iload_n cx dX3_hasVariant_4 rfl 1 rfl ?_
    refine v_aload_n cx dX3_hasVariant_5 rfl 0 rfl ?_
    refine g_X3_37 cx dX3_hasVariant_6 0 rfl rfl ?_
    refine v_icmp_ge (tgt := 16) cx dX3_hasVariant_9 (by decide) h (fun h => ?_) (fun h => ?_)
    · refine v_iconst (v := 0) cx dX3_hasVariant_16 (by decide) ?_
      exact v_ireturn cx rfl dX3_hasVariant_17 ⟨rfl, _, rfl, h⟩
    · refine v_iconst (v := 1) cx dX3_hasVariant_12 (by decide) ?_
      refine v_goto (tgt := 17) cx dX3_hasVariant_13 (by decide) ?_
      exact v_ireturn cx rfl dX3_hasVariant_17 ⟨rfl, _, rfl, h⟩
abbrev rm_X3_hasPlace : Room := { frames := 0, cells := 0, slots := 0, locals := 0 }
set_option maxHeartbeats 4000000 in
set_option maxRecDepth 100000 in
theorem c_X3_hasPlace (l : Launch) (g : gT) (D : va_G) (cy : Nat → ClassId) (q_t q_t_keys q_t_sizes q_t_qualities q_t_lengths q_t_ranges q_t_names q_t_weights q_t_ties : Nat) {t_variants : Int32} {t_lengths : Nat → Int32} {x1 : Int32} {x2 : Int32} {N : Nat} {Q : Int32 → Prop} (h : p_X3_hasPlace N t_variants t_lengths x1 x2 Q) : UC l yX3_hasPlace cX3_hasPlace 3 (some .boolean) rm_X3_hasPlace g D cy [.ref q_t, .int x1, .int x2] [(q_t, .inr (3, [.int t_variants, .ref q_t_keys, .ref q_t_sizes, .ref q_t_qualities, .ref q_t_lengths, .ref q_t_ranges, .ref q_t_names, .ref q_t_weights, .ref q_t_ties])), (q_t_lengths, .inl (cy 0, 6, .inl t_lengths))] (fun v w => w = [(q_t, .inr (3, [.int t_variants, .ref q_t_keys, .ref q_t_sizes, .ref q_t_qualities, .ref q_t_lengths, .ref q_t_ranges, .ref q_t_names, .ref q_t_weights, .ref q_t_ties])), (q_t_lengths, .inl (cy 0, 6, .inl t_lengths))] ∧ ∃ r : Int32, v = some (.int r) ∧ Q r) := by
  refine UC_of (by decide +kernel) (Nat.le_of_ble_eq_true rfl) [(0, .ref q_t), (1, .int x1), (2, .int x2)] rfl (fun p e s m args below meth c A cx => ?_)
  unfold p_X3_hasPlace at h
  refine v_iload_n cx dX3_hasPlace_0 rfl 2 rfl ?_
  refine v_if_lt (tgt := 18) cx dX3_hasPlace_1 (by decide) h (fun h => ?_) (fun h => ?_)
  · refine v_iconst (v := 0) cx dX3_hasPlace_18 (by decide) ?_
    exact v_ireturn cx rfl dX3_hasPlace_19 ⟨rfl, _, rfl, h⟩
  · refine v_iload_n cx dX3_hasPlace_4 rfl 2 rfl ?_
    refine v_aload_n cx dX3_hasPlace_5 rfl 0 rfl ?_
    refine g_X3_22 cx dX3_hasPlace_6 0 rfl rfl ?_
    refine v_iload_n cx dX3_hasPlace_9 rfl 1 rfl ?_
    refine v_iald cx dX3_hasPlace_10 1 rfl h (fun h => ?_)
    refine v_icmp_ge (tgt := 18) cx dX3_hasPlace_11 (by decide) h (fun h => ?_) (fun h => ?_)
    · refine v_iconst (v := 0) cx dX3_hasPlace_18 (by decide) ?_
      exact v_ireturn cx rfl dX3_hasPlace_19 ⟨rfl, _, rfl, h⟩
    · refine v_iconst (v := 1) cx dX3_hasPlace_14 (by decide) ?_
      refine v_goto (tgt := 19) cx dX3_hasPlace_15 (by decide) ?_
      exact v_ireturn cx rfl dX3_hasPlace_19 ⟨rfl, _, rfl, h⟩
abbrev rm_X3_keyOf : Room := { frames := 0, cells := 0, slots := 0, locals := 0 }
set_option maxHeartbeats 4000000 in
set_option maxRecDepth 100000 in
theorem c_X3_keyOf (l : Launch) (g : gT) (D : va_G) (cy : Nat → ClassId) (q_t q_t_keys q_t_sizes q_t_qualities q_t_lengths q_t_ranges q_t_names q_t_weights q_t_ties : Nat) {t_variants : Int32} {t_keys : Nat → Int64} {x1 : Int32} {x2 : Int32} {N : Nat} {Q : Int64 → Prop} (h : p_X3_keyOf N t_variants t_keys x1 x2 Q) : UC l yX3_keyOf cX3_keyOf 3 (some .long) rm_X3_keyOf g D cy [.ref q_t, .int x1, .int x2] [(q_t, .inr (3, [.int t_variants, .ref q_t_keys, .ref q_t_sizes, .ref q_t_qualities, .ref q_t_lengths, .ref q_t_ranges, .ref q_t_names, .ref q_t_weights, .ref q_t_ties])), (q_t_keys, .inl (cy 1, 48, .inr (.inl t_keys)))] (fun v w => w = [(q_t, .inr (3, [.int t_variants, .ref q_t_keys, .ref q_t_sizes, .ref q_t_qualities, .ref q_t_lengths, .ref q_t_ranges, .ref q_t_names, .ref q_t_weights, .ref q_t_ties])), (q_t_keys, .inl (cy 1, 48, .inr (.inl t_keys)))] ∧ ∃ r : Int64, v = some (.long r) ∧ Q r) := by
  refine UC_of (by decide +kernel) (Nat.le_of_ble_eq_true rfl) [(0, .ref q_t), (1, .int x1), (2, .int x2)] rfl (fun p e s m args below meth c A cx => ?_)
  unfold p_X3_keyOf at h
  refine v_aload_n cx dX3_keyOf_0 rfl 0 rfl ?_
  refine g_X3_9 cx dX3_keyOf_1 0 rfl rfl ?_
  refine v_iload_n cx dX3_keyOf_4 rfl 1 rfl ?_
  refine v_iconst (v := 3) cx dX3_keyOf_5 (by decide) ?_
  refine v_imul cx dX3_keyOf_6 ?_
  refine v_iload_n cx dX3_keyOf_7 rfl 2 rfl ?_
  refine v_iadd cx dX3_keyOf_8 ?_
  refine v_lald cx dX3_keyOf_9 1 rfl h (fun h => ?_)
  exact v_lreturn cx dX3_keyOf_10 ⟨rfl, _, rfl, h⟩
abbrev rm_X3_hasTwin : Room := { frames := 1, cells := 0, slots := 0, locals := 22 }
set_option maxHeartbeats 4000000 in
set_option maxRecDepth 100000 in
theorem w_X3_hasTwin_2 {p : Program} {l : Launch} {e : Env} {s : State} {m : MethodId} {args : Array Value} {below : List Frame} {meth : Method} {c : Code} {Q9 : State → Prop} {mn : String} {Ts : List Cond} {D : va_G} {cy : Nat → ClassId} {g : gT} {A : Nat → Prop} (cx : vC p s m args meth c cX3_hasTwin 3 (some .boolean) RX3 mn Ts D cy g A) (q_t q_t_keys q_t_sizes q_t_qualities q_t_lengths q_t_ranges q_t_names q_t_weights q_t_ties q_p1 q_p1_text q_p1_ranges q_p1_names q_p1_weights q_p1_keys : Nat) {t_variants : Int32} {t_keys : Nat → Int64} {p1_at : Int32} {p1_number : Int32} {p1_key : Int64} {p1_keyNames : Int32} {p1_entries : Int32} {p1_size : Int32} {p1_keys : Nat → Int64} {N : Nat} {K58 : Int32 → Prop} {K66 : Int32 → Prop} (hK58 : ∀ (x2 : Int32), K58 x2 → vV p l e rm_X3_hasTwin s m args below meth c Q9 3 D A 0 0 [(q_t, .inr (3, [.int t_variants, .ref q_t_keys, .ref q_t_sizes, .ref q_t_qualities, .ref q_t_lengths, .ref q_t_ranges, .ref q_t_names, .ref q_t_weights, .ref q_t_ties])), (q_t_keys, .inl (cy 1, 48, .inr (.inl t_keys))), (q_p1, .inr (1, [.ref q_p1_text, .int p1_at, .int p1_number, .long p1_key, .int p1_keyNames, .ref q_p1_ranges, .ref q_p1_names, .ref q_p1_weights, .int p1_entries, .ref q_p1_keys, .int p1_size])), (q_p1_keys, .inl (cy 1, 3, .inr (.inl p1_keys)))] 58 [(0, .ref q_t), (1, .ref q_p1), (2, .int x2)] []) (hK66 : ∀ (x2 : Int32), K66 x2 → vV p l e rm_X3_hasTwin s m args below meth c Q9 3 D A 0 0 [(q_t, .inr (3, [.int t_variants, .ref q_t_keys, .ref q_t_sizes, .ref q_t_qualities, .ref q_t_lengths, .ref q_t_ranges, .ref q_t_names, .ref q_t_weights, .ref q_t_ties])), (q_t_keys, .inl (cy 1, 48, .inr (.inl t_keys))), (q_p1, .inr (1, [.ref q_p1_text, .int p1_at, .int p1_number, .long p1_key, .int p1_keyNames, .ref q_p1_ranges, .ref q_p1_names, .ref q_p1_weights, .int p1_entries, .ref q_p1_keys, .int p1_size])), (q_p1_keys, .inl (cy 1, 3, .inr (.inl p1_keys)))] 66 [(0, .ref q_t), (1, .ref q_p1), (2, .int x2)] []) : ∀ (n : Nat) (x2 : Int32), p_X3_hasTwin_2 N t_variants t_keys p1_at p1_number p1_key p1_keyNames p1_entries p1_size p1_keys K58 K66 n x2 → vV p l e rm_X3_hasTwin s m args below meth c Q9 3 D A 0 0 [(q_t, .inr (3, [.int t_variants, .ref q_t_keys, .ref q_t_sizes, .ref q_t_qualities, .ref q_t_lengths, .ref q_t_ranges, .ref q_t_names, .ref q_t_weights, .ref q_t_ties])), (q_t_keys, .inl (cy 1, 48, .inr (.inl t_keys))), (q_p1, .inr (1, [.ref q_p1_text, .int p1_at, .int p1_number, .long p1_key, .int p1_keyNames, .ref q_p1_ranges, .ref q_p1_names, .ref q_p1_weights, .int p1_entries, .ref q_p1_keys, .int p1_size])), (q_p1_keys, .inl (cy 1, 3, .inr (.inl p1_keys)))] 2 [(0, .ref q_t), (1, .ref q_p1), (2, .int x2)] [] := by
  intro n
  induction n with
  | zero => intro x2 h; exact False.elim h
  | succ n ih =>
    intro x2 h
    unfold p_X3_hasTwin_2 at h
    refine v_iload_n cx dX3_hasTwin_2 rfl 2 rfl ?_
    refine v_aload_n cx dX3_hasTwin_3 rfl 0 rfl ?_
    refine g_X3_37 cx dX3_hasTwin_4 0 rfl rfl ?_
    refine v_icmp_ge (tgt := 66) cx dX3_hasTwin_7 (by decide) h (fun h => ?_) (fun h => ?_)
    · refine v_lv (lv' := [(0, .ref q_t), (1, .ref q_p1), (2, .int x2)]) [0, 1, 2] rfl ?_
      exact hK66 _ h
    · refine v_aload_n cx dX3_hasTwin_10 rfl 0 rfl ?_
      refine v_iload_n cx dX3_hasTwin_11 rfl 2 rfl ?_
      refine v_iconst (v := 0) cx dX3_hasTwin_12 (by decide) ?_
      refine v_callVpl (As := [.int x2, .int 0]) cx (c_X3_keyOf l g D cy q_t q_t_keys q_t_sizes q_t_qualities q_t_lengths q_t_ranges q_t_names q_t_weights q_t_ties h) k_X3_47 (by decide) ⟨rfl, rfl⟩ (by decide) rfl rfl (Nat.le_of_ble_eq_true rfl) dX3_hasTwin_13 [0, 1] [2, 3] (by decide) rfl rfl rfl rfl (q0 := 0) rfl rfl (fun r_1 h => ?_)
      refine v_aload_n cx dX3_hasTwin_16 rfl 1 rfl ?_
      refine g_X3_51 cx dX3_hasTwin_17 2 rfl rfl ?_
      refine v_iconst (v := 0) cx dX3_hasTwin_20 (by decide) ?_
      refine v_lald cx dX3_hasTwin_21 3 rfl ⟨by unfold vp_in; decide, h⟩ (fun h => ?_)
      refine v_lcmp cx dX3_hasTwin_22 ?_
      refine v_if_ne (tgt := 60) cx dX3_hasTwin_23 (by decide) h (fun h => ?_) (fun h => ?_)
      · refine v_iinc (v := x2 + 1) (k0 := 2) (lv' := [(2, .int (x2 + 1)), (0, .ref q_t), (1, .ref q_p1)]) cx dX3_hasTwin_60 rfl rfl (by decide) rfl ?_
        refine v_goto (tgt := 2) cx dX3_hasTwin_63 (by decide) ?_
        refine v_lv (lv' := [(0, .ref q_t), (1, .ref q_p1), (2, .int (x2 + 1))]) [1, 2, 0] rfl ?_
        exact ih _ h
      · refine v_aload_n cx dX3_hasTwin_26 rfl 0 rfl ?_
        refine v_iload_n cx dX3_hasTwin_27 rfl 2 rfl ?_
        refine v_iconst (v := 1) cx dX3_hasTwin_28 (by decide) ?_
        refine v_callVpl (As := [.int x2, .int 1]) cx (c_X3_keyOf l g D cy q_t q_t_keys q_t_sizes q_t_qualities q_t_lengths q_t_ranges q_t_names q_t_weights q_t_ties h) k_X3_47 (by decide) ⟨rfl, rfl⟩ (by decide) rfl rfl (Nat.le_of_ble_eq_true rfl) dX3_hasTwin_29 [0, 1] [2, 3] (by decide) rfl rfl rfl rfl (q0 := 0) rfl rfl (fun r_2 h => ?_)
        refine v_aload_n cx dX3_hasTwin_32 rfl 1 rfl ?_
        refine g_X3_51 cx dX3_hasTwin_33 2 rfl rfl ?_
        refine v_iconst (v := 1) cx dX3_hasTwin_36 (by decide) ?_
        refine v_lald cx dX3_hasTwin_37 3 rfl ⟨by unfold vp_in; decide, h⟩ (fun h => ?_)
        refine v_lcmp cx dX3_hasTwin_38 ?_
        refine v_if_ne (tgt := 60) cx dX3_hasTwin_39 (by decide) h (fun h => ?_) (fun h => ?_)
        · refine v_iinc (v := x2 + 1) (k0 := 2) (lv' := [(2, .int (x2 + 1)), (0, .ref q_t), (1, .ref q_p1)]) cx dX3_hasTwin_60 rfl rfl (by decide) rfl ?_
          refine v_goto (tgt := 2) cx dX3_hasTwin_63 (by decide) ?_
          refine v_lv (lv' := [(0, .ref q_t), (1, .ref q_p1), (2, .int (x2 + 1))]) [1, 2, 0] rfl ?_
          exact ih _ h
        · refine v_aload_n cx dX3_hasTwin_42 rfl 0 rfl ?_
          refine v_iload_n cx dX3_hasTwin_43 rfl 2 rfl ?_
          refine v_iconst (v := 2) cx dX3_hasTwin_44 (by decide) ?_
          refine v_callVpl (As := [.int x2, .int 2]) cx (c_X3_keyOf l g D cy q_t q_t_keys q_t_sizes q_t_qualities q_t_lengths q_t_ranges q_t_names q_t_weights q_t_ties h) k_X3_47 (by decide) ⟨rfl, rfl⟩ (by decide) rfl rfl (Nat.le_of_ble_eq_true rfl) dX3_hasTwin_45 [0, 1] [2, 3] (by decide) rfl rfl rfl rfl (q0 := 0) rfl rfl (fun r_3 h => ?_)
          refine v_aload_n cx dX3_hasTwin_48 rfl 1 rfl ?_
          refine g_X3_51 cx dX3_hasTwin_49 2 rfl rfl ?_
          refine v_iconst (v := 2) cx dX3_hasTwin_52 (by decide) ?_
          refine v_lald cx dX3_hasTwin_53 3 rfl ⟨by unfold vp_in; decide, h⟩ (fun h => ?_)
          refine v_lcmp cx dX3_hasTwin_54 ?_
          refine v_if_ne (tgt := 60) cx dX3_hasTwin_55 (by decide) h (fun h => ?_) (fun h => ?_)
          · refine v_iinc (v := x2 + 1) (k0 := 2) (lv' := [(2, .int (x2 + 1)), (0, .ref q_t), (1, .ref q_p1)]) cx dX3_hasTwin_60 rfl rfl (by decide) rfl ?_
            refine v_goto (tgt := 2) cx dX3_hasTwin_63 (by decide) ?_
            refine v_lv (lv' := [(0, .ref q_t), (1, .ref q_p1), (2, .int (x2 + 1))]) [1, 2, 0] rfl ?_
            exact ih _ h
          · refine v_lv (lv' := [(0, .ref q_t), (1, .ref q_p1), (2, .int x2)]) [0, 1, 2] rfl ?_
            exact hK58 _ h
set_option maxHeartbeats 4000000 in
set_option maxRecDepth 100000 in
theorem c_X3_hasTwin (l : Launch) (g : gT) (D : va_G) (cy : Nat → ClassId) (q_t q_t_keys q_t_sizes q_t_qualities q_t_lengths q_t_ranges q_t_names q_t_weights q_t_ties q_p1 q_p1_text q_p1_ranges q_p1_names q_p1_weights q_p1_keys : Nat) {t_variants : Int32} {t_keys : Nat → Int64} {p1_at : Int32} {p1_number : Int32} {p1_key : Int64} {p1_keyNames : Int32} {p1_entries : Int32} {p1_size : Int32} {p1_keys : Nat → Int64} {N : Nat} {Q : Int32 → Prop} (h : p_X3_hasTwin N t_variants t_keys p1_at p1_number p1_key p1_keyNames p1_entries p1_size p1_keys Q) : UC l yX3_hasTwin cX3_hasTwin 3 (some .boolean) rm_X3_hasTwin g D cy [.ref q_t, .ref q_p1] [(q_t, .inr (3, [.int t_variants, .ref q_t_keys, .ref q_t_sizes, .ref q_t_qualities, .ref q_t_lengths, .ref q_t_ranges, .ref q_t_names, .ref q_t_weights, .ref q_t_ties])), (q_t_keys, .inl (cy 1, 48, .inr (.inl t_keys))), (q_p1, .inr (1, [.ref q_p1_text, .int p1_at, .int p1_number, .long p1_key, .int p1_keyNames, .ref q_p1_ranges, .ref q_p1_names, .ref q_p1_weights, .int p1_entries, .ref q_p1_keys, .int p1_size])), (q_p1_keys, .inl (cy 1, 3, .inr (.inl p1_keys)))] (fun v w => w = [(q_t, .inr (3, [.int t_variants, .ref q_t_keys, .ref q_t_sizes, .ref q_t_qualities, .ref q_t_lengths, .ref q_t_ranges, .ref q_t_names, .ref q_t_weights, .ref q_t_ties])), (q_t_keys, .inl (cy 1, 48, .inr (.inl t_keys))), (q_p1, .inr (1, [.ref q_p1_text, .int p1_at, .int p1_number, .long p1_key, .int p1_keyNames, .ref q_p1_ranges, .ref q_p1_names, .ref q_p1_weights, .int p1_entries, .ref q_p1_keys, .int p1_size])), (q_p1_keys, .inl (cy 1, 3, .inr (.inl p1_keys)))] ∧ ∃ r : Int32, v = some (.int r) ∧ Q r) := by
  refine UC_of (by decide +kernel) (Nat.le_of_ble_eq_true rfl) [(0, .ref q_t), (1, .ref q_p1)] rfl (fun p e s m args below meth c A cx => ?_)
  unfold p_X3_hasTwin at h
  refine v_iconst (v := 0) cx dX3_hasTwin_0 (by decide) ?_
  refine v_istore_n (lv' := [(2, .int 0), (0, .ref q_t), (1, .ref q_p1)]) cx dX3_hasTwin_1 rfl (by decide) rfl ?_
  refine v_lv (lv' := [(0, .ref q_t), (1, .ref q_p1), (2, .int 0)]) [1, 2, 0] rfl ?_
  refine w_X3_hasTwin_2 cx q_t q_t_keys q_t_sizes q_t_qualities q_t_lengths q_t_ranges q_t_names q_t_weights q_t_ties q_p1 q_p1_text q_p1_ranges q_p1_names q_p1_weights q_p1_keys ?_ ?_ N _ h
  · intro x2_4 h
    refine v_iconst (v := 1) cx dX3_hasTwin_58 (by decide) ?_
    exact v_ireturn cx rfl dX3_hasTwin_59 ⟨rfl, _, rfl, h⟩
  · intro x2_5 h
    refine v_iconst (v := 0) cx dX3_hasTwin_66 (by decide) ?_
    exact v_ireturn cx rfl dX3_hasTwin_67 ⟨rfl, _, rfl, h⟩
abbrev rm_X3_putVariant : Room := { frames := 0, cells := 0, slots := 0, locals := 0 }
set_option maxHeartbeats 4000000 in
set_option maxRecDepth 100000 in
theorem w_X3_putVariant_13 {p : Program} {l : Launch} {e : Env} {s : State} {m : MethodId} {args : Array Value} {below : List Frame} {meth : Method} {c : Code} {Q9 : State → Prop} {mn : String} {Ts : List Cond} {D : va_G} {cy : Nat → ClassId} {g : gT} {A : Nat → Prop} (cx : vC p s m args meth c cX3_putVariant 4 (some .int) RX3 mn Ts D cy g A) (q_t q_t_keys q_t_sizes q_t_qualities q_t_lengths q_t_ranges q_t_names q_t_weights q_t_ties q_p1 q_p1_text q_p1_ranges q_p1_names q_p1_weights q_p1_keys : Nat) {x2 : Int32} {t_variants : Int32} {t_sizes : Nat → Int32} {t_qualities : Nat → Int32} {p1_at : Int32} {p1_number : Int32} {p1_key : Int64} {p1_keyNames : Int32} {p1_entries : Int32} {p1_size : Int32} {p1_keys : Nat → Int64} {N : Nat} {K40 : Int32 → (Nat → Int64) → Prop} (hK40 : ∀ (x3 : Int32) (t_keys : Nat → Int64), K40 x3 t_keys → vV p l e rm_X3_putVariant s m args below meth c Q9 4 D A 0 0 [(q_t, .inr (3, [.int t_variants, .ref q_t_keys, .ref q_t_sizes, .ref q_t_qualities, .ref q_t_lengths, .ref q_t_ranges, .ref q_t_names, .ref q_t_weights, .ref q_t_ties])), (q_t_keys, .inl (cy 1, 48, .inr (.inl t_keys))), (q_t_sizes, .inl (cy 0, 16, .inl t_sizes)), (q_t_qualities, .inl (cy 0, 16, .inl t_qualities)), (q_p1, .inr (1, [.ref q_p1_text, .int p1_at, .int p1_number, .long p1_key, .int p1_keyNames, .ref q_p1_ranges, .ref q_p1_names, .ref q_p1_weights, .int p1_entries, .ref q_p1_keys, .int p1_size])), (q_p1_keys, .inl (cy 1, 3, .inr (.inl p1_keys)))] 40 [(0, .ref q_t), (1, .ref q_p1), (2, .int x2), (3, .int x3)] []) : ∀ (n : Nat) (x3 : Int32) (t_keys : Nat → Int64), p_X3_putVariant_13 N x2 t_variants t_sizes t_qualities p1_at p1_number p1_key p1_keyNames p1_entries p1_size p1_keys K40 n x3 t_keys → vV p l e rm_X3_putVariant s m args below meth c Q9 4 D A 0 0 [(q_t, .inr (3, [.int t_variants, .ref q_t_keys, .ref q_t_sizes, .ref q_t_qualities, .ref q_t_lengths, .ref q_t_ranges, .ref q_t_names, .ref q_t_weights, .ref q_t_ties])), (q_t_keys, .inl (cy 1, 48, .inr (.inl t_keys))), (q_t_sizes, .inl (cy 0, 16, .inl t_sizes)), (q_t_qualities, .inl (cy 0, 16, .inl t_qualities)), (q_p1, .inr (1, [.ref q_p1_text, .int p1_at, .int p1_number, .long p1_key, .int p1_keyNames, .ref q_p1_ranges, .ref q_p1_names, .ref q_p1_weights, .int p1_entries, .ref q_p1_keys, .int p1_size])), (q_p1_keys, .inl (cy 1, 3, .inr (.inl p1_keys)))] 13 [(0, .ref q_t), (1, .ref q_p1), (2, .int x2), (3, .int x3)] [] := by
  intro n
  induction n with
  | zero => intro x3 t_keys h; exact False.elim h
  | succ n ih =>
    intro x3 t_keys h
    unfold p_X3_putVariant_13 at h
    refine v_iload_n cx dX3_putVariant_13 rfl 3 rfl ?_
    refine v_iconst (v := 3) cx dX3_putVariant_14 (by decide) ?_
    refine v_icmp_ge (tgt := 40) cx dX3_putVariant_15 (by decide) h (fun h => ?_) (fun h => ?_)
    · refine v_lv (lv' := [(0, .ref q_t), (1, .ref q_p1), (2, .int x2), (3, .int x3)]) [0, 1, 2, 3] rfl ?_
      exact hK40 _ _ h
    · refine v_aload_n cx dX3_putVariant_18 rfl 0 rfl ?_
      refine g_X3_9 cx dX3_putVariant_19 0 rfl rfl ?_
      refine v_iload_n cx dX3_putVariant_22 rfl 2 rfl ?_
      refine v_iconst (v := 3) cx dX3_putVariant_23 (by decide) ?_
      refine v_imul cx dX3_putVariant_24 ?_
      refine v_iload_n cx dX3_putVariant_25 rfl 3 rfl ?_
      refine v_iadd cx dX3_putVariant_26 ?_
      refine v_aload_n cx dX3_putVariant_27 rfl 1 rfl ?_
      refine g_X3_51 cx dX3_putVariant_28 4 rfl rfl ?_
      refine v_iload_n cx dX3_putVariant_31 rfl 3 rfl ?_
      refine v_lald cx dX3_putVariant_32 5 rfl h (fun h => ?_)
      refine v_last (ws' := [(q_t, .inr (3, [.int t_variants, .ref q_t_keys, .ref q_t_sizes, .ref q_t_qualities, .ref q_t_lengths, .ref q_t_ranges, .ref q_t_names, .ref q_t_weights, .ref q_t_ties])), (q_t_keys, .inl (cy 1, 48, .inr (.inl (vp_updL t_keys (((x2 * 3) + x3).toNatClampNeg) (p1_keys x3.toNatClampNeg))))), (q_t_sizes, .inl (cy 0, 16, .inl t_sizes)), (q_t_qualities, .inl (cy 0, 16, .inl t_qualities)), (q_p1, .inr (1, [.ref q_p1_text, .int p1_at, .int p1_number, .long p1_key, .int p1_keyNames, .ref q_p1_ranges, .ref q_p1_names, .ref q_p1_weights, .int p1_entries, .ref q_p1_keys, .int p1_size])), (q_p1_keys, .inl (cy 1, 3, .inr (.inl p1_keys)))]) cx dX3_putVariant_33 1 rfl h rfl (fun h => ?_)
      refine v_iinc (v := x3 + 1) (k0 := 3) (lv' := [(3, .int (x3 + 1)), (0, .ref q_t), (1, .ref q_p1), (2, .int x2)]) cx dX3_putVariant_34 rfl rfl (by decide) rfl ?_
      refine v_goto (tgt := 13) cx dX3_putVariant_37 (by decide) ?_
      refine v_lv (lv' := [(0, .ref q_t), (1, .ref q_p1), (2, .int x2), (3, .int (x3 + 1))]) [1, 2, 3, 0] rfl ?_
      exact ih _ _ h
set_option maxHeartbeats 4000000 in
set_option maxRecDepth 100000 in
theorem c_X3_putVariant (l : Launch) (g : gT) (D : va_G) (cy : Nat → ClassId) (q_t q_t_keys q_t_sizes q_t_qualities q_t_lengths q_t_ranges q_t_names q_t_weights q_t_ties q_p1 q_p1_text q_p1_ranges q_p1_names q_p1_weights q_p1_keys : Nat) {t_variants : Int32} {t_keys : Nat → Int64} {t_sizes : Nat → Int32} {t_qualities : Nat → Int32} {p1_at : Int32} {p1_number : Int32} {p1_key : Int64} {p1_keyNames : Int32} {p1_entries : Int32} {p1_size : Int32} {p1_keys : Nat → Int64} {N : Nat} {Q : Int32 → Int32 → (Nat → Int64) → (Nat → Int32) → (Nat → Int32) → Prop} (h : p_X3_putVariant N t_variants t_keys t_sizes t_qualities p1_at p1_number p1_key p1_keyNames p1_entries p1_size p1_keys Q) : UC l yX3_putVariant cX3_putVariant 4 (some .int) rm_X3_putVariant g D cy [.ref q_t, .ref q_p1] [(q_t, .inr (3, [.int t_variants, .ref q_t_keys, .ref q_t_sizes, .ref q_t_qualities, .ref q_t_lengths, .ref q_t_ranges, .ref q_t_names, .ref q_t_weights, .ref q_t_ties])), (q_t_keys, .inl (cy 1, 48, .inr (.inl t_keys))), (q_t_sizes, .inl (cy 0, 16, .inl t_sizes)), (q_t_qualities, .inl (cy 0, 16, .inl t_qualities)), (q_p1, .inr (1, [.ref q_p1_text, .int p1_at, .int p1_number, .long p1_key, .int p1_keyNames, .ref q_p1_ranges, .ref q_p1_names, .ref q_p1_weights, .int p1_entries, .ref q_p1_keys, .int p1_size])), (q_p1_keys, .inl (cy 1, 3, .inr (.inl p1_keys)))] (fun v w => ∃ (r : Int32) (t_variants' : Int32) (t_keys' : Nat → Int64) (t_sizes' : Nat → Int32) (t_qualities' : Nat → Int32), v = some (.int r) ∧ w = [(q_t, .inr (3, [.int t_variants', .ref q_t_keys, .ref q_t_sizes, .ref q_t_qualities, .ref q_t_lengths, .ref q_t_ranges, .ref q_t_names, .ref q_t_weights, .ref q_t_ties])), (q_t_keys, .inl (cy 1, 48, .inr (.inl t_keys'))), (q_t_sizes, .inl (cy 0, 16, .inl t_sizes')), (q_t_qualities, .inl (cy 0, 16, .inl t_qualities')), (q_p1, .inr (1, [.ref q_p1_text, .int p1_at, .int p1_number, .long p1_key, .int p1_keyNames, .ref q_p1_ranges, .ref q_p1_names, .ref q_p1_weights, .int p1_entries, .ref q_p1_keys, .int p1_size])), (q_p1_keys, .inl (cy 1, 3, .inr (.inl p1_keys)))] ∧ Q r t_variants' t_keys' t_sizes' t_qualities') := by
  refine UC_of (by decide +kernel) (Nat.le_of_ble_eq_true rfl) [(0, .ref q_t), (1, .ref q_p1)] rfl (fun p e s m args below meth c A cx => ?_)
  unfold p_X3_putVariant at h
  refine v_aload_n cx dX3_putVariant_0 rfl 0 rfl ?_
  refine g_X3_37 cx dX3_putVariant_1 0 rfl rfl ?_
  refine v_istore_n (lv' := [(2, .int t_variants), (0, .ref q_t), (1, .ref q_p1)]) cx dX3_putVariant_4 rfl (by decide) rfl ?_
  refine v_iload_n cx dX3_putVariant_5 rfl 0 rfl ?_
  refine v_bipush (v := 16) cx dX3_putVariant_6 (by decide) ?_
  refine v_icmp_ge (tgt := 69) cx dX3_putVariant_8 (by decide) h (fun h => ?_) (fun h => ?_)
  · refine v_iload_n cx dX3_putVariant_69 rfl 0 rfl ?_
    exact v_ireturn cx rfl dX3_putVariant_70 ⟨_, _, _, _, _, rfl, rfl, h⟩
  · refine v_iconst (v := 0) cx dX3_putVariant_11 (by decide) ?_
    refine v_istore_n (lv' := [(3, .int 0), (2, .int t_variants), (0, .ref q_t), (1, .ref q_p1)]) cx dX3_putVariant_12 rfl (by decide) rfl ?_
    refine v_lv (lv' := [(0, .ref q_t), (1, .ref q_p1), (2, .int t_variants), (3, .int 0)]) [2, 3, 1, 0] rfl ?_
    refine w_X3_putVariant_13 cx q_t q_t_keys q_t_sizes q_t_qualities q_t_lengths q_t_ranges q_t_names q_t_weights q_t_ties q_p1 q_p1_text q_p1_ranges q_p1_names q_p1_weights q_p1_keys ?_ N _ _ h
    · intro x3_1 t_keys_2 h
      refine v_aload_n cx dX3_putVariant_40 rfl 0 rfl ?_
      refine g_X3_15 cx dX3_putVariant_41 0 rfl rfl ?_
      refine v_iload_n cx dX3_putVariant_44 rfl 2 rfl ?_
      refine v_aload_n cx dX3_putVariant_45 rfl 1 rfl ?_
      refine g_X3_54 cx dX3_putVariant_46 4 rfl rfl ?_
      refine v_iast (ws' := [(q_t, .inr (3, [.int t_variants, .ref q_t_keys, .ref q_t_sizes, .ref q_t_qualities, .ref q_t_lengths, .ref q_t_ranges, .ref q_t_names, .ref q_t_weights, .ref q_t_ties])), (q_t_keys, .inl (cy 1, 48, .inr (.inl t_keys_2))), (q_t_sizes, .inl (cy 0, 16, .inl (upd t_sizes t_variants.toNatClampNeg p1_size))), (q_t_qualities, .inl (cy 0, 16, .inl t_qualities)), (q_p1, .inr (1, [.ref q_p1_text, .int p1_at, .int p1_number, .long p1_key, .int p1_keyNames, .ref q_p1_ranges, .ref q_p1_names, .ref q_p1_weights, .int p1_entries, .ref q_p1_keys, .int p1_size])), (q_p1_keys, .inl (cy 1, 3, .inr (.inl p1_keys)))]) cx dX3_putVariant_49 2 rfl h rfl (fun h => ?_)
      refine v_aload_n cx dX3_putVariant_50 rfl 0 rfl ?_
      refine g_X3_19 cx dX3_putVariant_51 0 rfl rfl ?_
      refine v_iload_n cx dX3_putVariant_54 rfl 2 rfl ?_
      refine v_sipush (v := 1000) cx dX3_putVariant_55 (by decide) ?_
      refine v_iast (ws' := [(q_t, .inr (3, [.int t_variants, .ref q_t_keys, .ref q_t_sizes, .ref q_t_qualities, .ref q_t_lengths, .ref q_t_ranges, .ref q_t_names, .ref q_t_weights, .ref q_t_ties])), (q_t_keys, .inl (cy 1, 48, .inr (.inl t_keys_2))), (q_t_sizes, .inl (cy 0, 16, .inl (upd t_sizes t_variants.toNatClampNeg p1_size))), (q_t_qualities, .inl (cy 0, 16, .inl (upd t_qualities t_variants.toNatClampNeg 1000))), (q_p1, .inr (1, [.ref q_p1_text, .int p1_at, .int p1_number, .long p1_key, .int p1_keyNames, .ref q_p1_ranges, .ref q_p1_names, .ref q_p1_weights, .int p1_entries, .ref q_p1_keys, .int p1_size])), (q_p1_keys, .inl (cy 1, 3, .inr (.inl p1_keys)))]) cx dX3_putVariant_58 3 rfl h rfl (fun h => ?_)
      refine v_aload_n cx dX3_putVariant_59 rfl 0 rfl ?_
      refine v_dup cx dX3_putVariant_60 rfl ?_
      refine g_X3_37 cx dX3_putVariant_61 0 rfl rfl ?_
      refine v_iconst (v := 1) cx dX3_putVariant_64 (by decide) ?_
      refine v_iadd cx dX3_putVariant_65 ?_
      refine p_X3_37 (ws' := [(q_t, .inr (3, [.int (t_variants + 1), .ref q_t_keys, .ref q_t_sizes, .ref q_t_qualities, .ref q_t_lengths, .ref q_t_ranges, .ref q_t_names, .ref q_t_weights, .ref q_t_ties])), (q_t_keys, .inl (cy 1, 48, .inr (.inl t_keys_2))), (q_t_sizes, .inl (cy 0, 16, .inl (upd t_sizes t_variants.toNatClampNeg p1_size))), (q_t_qualities, .inl (cy 0, 16, .inl (upd t_qualities t_variants.toNatClampNeg 1000))), (q_p1, .inr (1, [.ref q_p1_text, .int p1_at, .int p1_number, .long p1_key, .int p1_keyNames, .ref q_p1_ranges, .ref q_p1_names, .ref q_p1_weights, .int p1_entries, .ref q_p1_keys, .int p1_size])), (q_p1_keys, .inl (cy 1, 3, .inr (.inl p1_keys)))]) cx dX3_putVariant_66 0 rfl rfl rfl (Nat.le_of_ble_eq_true rfl) rfl ?_
      refine v_iload_n cx dX3_putVariant_69 rfl 2 rfl ?_
      exact v_ireturn cx rfl dX3_putVariant_70 ⟨_, _, _, _, _, rfl, rfl, h⟩
abbrev rm_X3_dropVariant : Room := { frames := 0, cells := 0, slots := 0, locals := 0 }
set_option maxHeartbeats 4000000 in
set_option maxRecDepth 100000 in
theorem w_X3_dropVariant_14 {p : Program} {l : Launch} {e : Env} {s : State} {m : MethodId} {args : Array Value} {below : List Frame} {meth : Method} {c : Code} {Q9 : State → Prop} {mn : String} {Ts : List Cond} {D : va_G} {cy : Nat → ClassId} {g : gT} {A : Nat → Prop} (cx : vC p s m args meth c cX3_dropVariant 4 (some .int) RX3 mn Ts D cy g A) (q_t q_t_keys q_t_sizes q_t_qualities q_t_lengths q_t_ranges q_t_names q_t_weights q_t_ties : Nat) {x1 : Int32} {x2 : Int32} {t_variants : Int32} {t_sizes : Nat → Int32} {t_qualities : Nat → Int32} {N : Nat} {K47 : Int32 → (Nat → Int64) → Prop} (hK47 : ∀ (x3 : Int32) (t_keys : Nat → Int64), K47 x3 t_keys → vV p l e rm_X3_dropVariant s m args below meth c Q9 4 D A 0 0 [(q_t, .inr (3, [.int t_variants, .ref q_t_keys, .ref q_t_sizes, .ref q_t_qualities, .ref q_t_lengths, .ref q_t_ranges, .ref q_t_names, .ref q_t_weights, .ref q_t_ties])), (q_t_keys, .inl (cy 1, 48, .inr (.inl t_keys))), (q_t_sizes, .inl (cy 0, 16, .inl t_sizes)), (q_t_qualities, .inl (cy 0, 16, .inl t_qualities))] 47 [(0, .ref q_t), (1, .int x1), (2, .int x2), (3, .int x3)] []) : ∀ (n : Nat) (x3 : Int32) (t_keys : Nat → Int64), p_X3_dropVariant_14 N x1 x2 t_variants t_sizes t_qualities K47 n x3 t_keys → vV p l e rm_X3_dropVariant s m args below meth c Q9 4 D A 0 0 [(q_t, .inr (3, [.int t_variants, .ref q_t_keys, .ref q_t_sizes, .ref q_t_qualities, .ref q_t_lengths, .ref q_t_ranges, .ref q_t_names, .ref q_t_weights, .ref q_t_ties])), (q_t_keys, .inl (cy 1, 48, .inr (.inl t_keys))), (q_t_sizes, .inl (cy 0, 16, .inl t_sizes)), (q_t_qualities, .inl (cy 0, 16, .inl t_qualities))] 14 [(0, .ref q_t), (1, .int x1), (2, .int x2), (3, .int x3)] [] := by
  intro n
  induction n with
  | zero => intro x3 t_keys h; exact False.elim h
  | succ n ih =>
    intro x3 t_keys h
    unfold p_X3_dropVariant_14 at h
    refine v_iload_n cx dX3_dropVariant_14 rfl 3 rfl ?_
    refine v_iconst (v := 3) cx dX3_dropVariant_15 (by decide) ?_
    refine v_icmp_ge (tgt := 47) cx dX3_dropVariant_16 (by decide) h (fun h => ?_) (fun h => ?_)
    · refine v_lv (lv' := [(0, .ref q_t), (1, .int x1), (2, .int x2), (3, .int x3)]) [0, 1, 2, 3] rfl ?_
      exact hK47 _ _ h
    · refine v_aload_n cx dX3_dropVariant_19 rfl 0 rfl ?_
      refine g_X3_9 cx dX3_dropVariant_20 0 rfl rfl ?_
      refine v_iload_n cx dX3_dropVariant_23 rfl 2 rfl ?_
      refine v_iconst (v := 1) cx dX3_dropVariant_24 (by decide) ?_
      refine v_isub cx dX3_dropVariant_25 ?_
      refine v_iconst (v := 3) cx dX3_dropVariant_26 (by decide) ?_
      refine v_imul cx dX3_dropVariant_27 ?_
      refine v_iload_n cx dX3_dropVariant_28 rfl 3 rfl ?_
      refine v_iadd cx dX3_dropVariant_29 ?_
      refine v_aload_n cx dX3_dropVariant_30 rfl 0 rfl ?_
      refine g_X3_9 cx dX3_dropVariant_31 0 rfl rfl ?_
      refine v_iload_n cx dX3_dropVariant_34 rfl 2 rfl ?_
      refine v_iconst (v := 3) cx dX3_dropVariant_35 (by decide) ?_
      refine v_imul cx dX3_dropVariant_36 ?_
      refine v_iload_n cx dX3_dropVariant_37 rfl 3 rfl ?_
      refine v_iadd cx dX3_dropVariant_38 ?_
      refine v_lald cx dX3_dropVariant_39 1 rfl h (fun h => ?_)
      refine v_last (ws' := [(q_t, .inr (3, [.int t_variants, .ref q_t_keys, .ref q_t_sizes, .ref q_t_qualities, .ref q_t_lengths, .ref q_t_ranges, .ref q_t_names, .ref q_t_weights, .ref q_t_ties])), (q_t_keys, .inl (cy 1, 48, .inr (.inl (vp_updL t_keys ((((x2 - 1) * 3) + x3).toNatClampNeg) (t_keys ((x2 * 3) + x3).toNatClampNeg))))), (q_t_sizes, .inl (cy 0, 16, .inl t_sizes)), (q_t_qualities, .inl (cy 0, 16, .inl t_qualities))]) cx dX3_dropVariant_40 1 rfl h rfl (fun h => ?_)
      refine v_iinc (v := x3 + 1) (k0 := 3) (lv' := [(3, .int (x3 + 1)), (0, .ref q_t), (1, .int x1), (2, .int x2)]) cx dX3_dropVariant_41 rfl rfl (by decide) rfl ?_
      refine v_goto (tgt := 14) cx dX3_dropVariant_44 (by decide) ?_
      refine v_lv (lv' := [(0, .ref q_t), (1, .int x1), (2, .int x2), (3, .int (x3 + 1))]) [1, 2, 3, 0] rfl ?_
      exact ih _ _ h
set_option maxHeartbeats 4000000 in
set_option maxRecDepth 100000 in
theorem w_X3_dropVariant_4 {p : Program} {l : Launch} {e : Env} {s : State} {m : MethodId} {args : Array Value} {below : List Frame} {meth : Method} {c : Code} {Q9 : State → Prop} {mn : String} {Ts : List Cond} {D : va_G} {cy : Nat → ClassId} {g : gT} {A : Nat → Prop} (cx : vC p s m args meth c cX3_dropVariant 4 (some .int) RX3 mn Ts D cy g A) (q_t q_t_keys q_t_sizes q_t_qualities q_t_lengths q_t_ranges q_t_names q_t_weights q_t_ties : Nat) {x1 : Int32} {t_variants : Int32} {N : Nat} {K81 : Int32 → (Nat → Int64) → (Nat → Int32) → (Nat → Int32) → Prop} (hK81 : ∀ (x2 : Int32) (t_keys : Nat → Int64) (t_sizes : Nat → Int32) (t_qualities : Nat → Int32), K81 x2 t_keys t_sizes t_qualities → vV p l e rm_X3_dropVariant s m args below meth c Q9 4 D A 0 0 [(q_t, .inr (3, [.int t_variants, .ref q_t_keys, .ref q_t_sizes, .ref q_t_qualities, .ref q_t_lengths, .ref q_t_ranges, .ref q_t_names, .ref q_t_weights, .ref q_t_ties])), (q_t_keys, .inl (cy 1, 48, .inr (.inl t_keys))), (q_t_sizes, .inl (cy 0, 16, .inl t_sizes)), (q_t_qualities, .inl (cy 0, 16, .inl t_qualities))] 81 [(0, .ref q_t), (1, .int x1), (2, .int x2)] []) : ∀ (n : Nat) (x2 : Int32) (t_keys : Nat → Int64) (t_sizes : Nat → Int32) (t_qualities : Nat → Int32), p_X3_dropVariant_4 N x1 t_variants K81 n x2 t_keys t_sizes t_qualities → vV p l e rm_X3_dropVariant s m args below meth c Q9 4 D A 0 0 [(q_t, .inr (3, [.int t_variants, .ref q_t_keys, .ref q_t_sizes, .ref q_t_qualities, .ref q_t_lengths, .ref q_t_ranges, .ref q_t_names, .ref q_t_weights, .ref q_t_ties])), (q_t_keys, .inl (cy 1, 48, .inr (.inl t_keys))), (q_t_sizes, .inl (cy 0, 16, .inl t_sizes)), (q_t_qualities, .inl (cy 0, 16, .inl t_qualities))] 4 [(0, .ref q_t), (1, .int x1), (2, .int x2)] [] := by
  intro n
  induction n with
  | zero => intro x2 t_keys t_sizes t_qualities h; exact False.elim h
  | succ n ih =>
    intro x2 t_keys t_sizes t_qualities h
    unfold p_X3_dropVariant_4 at h
    refine v_iload_n cx dX3_dropVariant_4 rfl 2 rfl ?_
    refine v_aload_n cx dX3_dropVariant_5 rfl 0 rfl ?_
    refine g_X3_37 cx dX3_dropVariant_6 0 rfl rfl ?_
    refine v_icmp_ge (tgt := 81) cx dX3_dropVariant_9 (by decide) h (fun h => ?_) (fun h => ?_)
    · refine v_lv (lv' := [(0, .ref q_t), (1, .int x1), (2, .int x2)]) [0, 1, 2] rfl ?_
      exact hK81 _ _ _ _ h
    · refine v_iconst (v := 0) cx dX3_dropVariant_12 (by decide) ?_
      refine v_istore_n (lv' := [(3, .int 0), (0, .ref q_t), (1, .int x1), (2, .int x2)]) cx dX3_dropVariant_13 rfl (by decide) rfl ?_
      refine v_lv (lv' := [(0, .ref q_t), (1, .int x1), (2, .int x2), (3, .int 0)]) [1, 2, 3, 0] rfl ?_
      refine w_X3_dropVariant_14 cx q_t q_t_keys q_t_sizes q_t_qualities q_t_lengths q_t_ranges q_t_names q_t_weights q_t_ties ?_ N _ _ h
      · intro x3_1 t_keys_2 h
        refine v_aload_n cx dX3_dropVariant_47 rfl 0 rfl ?_
        refine g_X3_15 cx dX3_dropVariant_48 0 rfl rfl ?_
        refine v_iload_n cx dX3_dropVariant_51 rfl 2 rfl ?_
        refine v_iconst (v := 1) cx dX3_dropVariant_52 (by decide) ?_
        refine v_isub cx dX3_dropVariant_53 ?_
        refine v_aload_n cx dX3_dropVariant_54 rfl 0 rfl ?_
        refine g_X3_15 cx dX3_dropVariant_55 0 rfl rfl ?_
        refine v_iload_n cx dX3_dropVariant_58 rfl 2 rfl ?_
        refine v_iald cx dX3_dropVariant_59 2 rfl h (fun h => ?_)
        refine v_iast (ws' := [(q_t, .inr (3, [.int t_variants, .ref q_t_keys, .ref q_t_sizes, .ref q_t_qualities, .ref q_t_lengths, .ref q_t_ranges, .ref q_t_names, .ref q_t_weights, .ref q_t_ties])), (q_t_keys, .inl (cy 1, 48, .inr (.inl t_keys_2))), (q_t_sizes, .inl (cy 0, 16, .inl (upd t_sizes ((x2 - 1).toNatClampNeg) (t_sizes x2.toNatClampNeg)))), (q_t_qualities, .inl (cy 0, 16, .inl t_qualities))]) cx dX3_dropVariant_60 2 rfl h rfl (fun h => ?_)
        refine v_aload_n cx dX3_dropVariant_61 rfl 0 rfl ?_
        refine g_X3_19 cx dX3_dropVariant_62 0 rfl rfl ?_
        refine v_iload_n cx dX3_dropVariant_65 rfl 2 rfl ?_
        refine v_iconst (v := 1) cx dX3_dropVariant_66 (by decide) ?_
        refine v_isub cx dX3_dropVariant_67 ?_
        refine v_aload_n cx dX3_dropVariant_68 rfl 0 rfl ?_
        refine g_X3_19 cx dX3_dropVariant_69 0 rfl rfl ?_
        refine v_iload_n cx dX3_dropVariant_72 rfl 2 rfl ?_
        refine v_iald cx dX3_dropVariant_73 3 rfl h (fun h => ?_)
        refine v_iast (ws' := [(q_t, .inr (3, [.int t_variants, .ref q_t_keys, .ref q_t_sizes, .ref q_t_qualities, .ref q_t_lengths, .ref q_t_ranges, .ref q_t_names, .ref q_t_weights, .ref q_t_ties])), (q_t_keys, .inl (cy 1, 48, .inr (.inl t_keys_2))), (q_t_sizes, .inl (cy 0, 16, .inl (upd t_sizes ((x2 - 1).toNatClampNeg) (t_sizes x2.toNatClampNeg)))), (q_t_qualities, .inl (cy 0, 16, .inl (upd t_qualities ((x2 - 1).toNatClampNeg) (t_qualities x2.toNatClampNeg))))]) cx dX3_dropVariant_74 3 rfl h rfl (fun h => ?_)
        refine v_iinc (v := x2 + 1) (k0 := 2) (lv' := [(2, .int (x2 + 1)), (0, .ref q_t), (1, .int x1), (3, .int x3_1)]) cx dX3_dropVariant_75 rfl rfl (by decide) rfl ?_
        refine v_goto (tgt := 4) cx dX3_dropVariant_78 (by decide) ?_
        refine v_lv (lv' := [(0, .ref q_t), (1, .int x1), (2, .int (x2 + 1))]) [1, 2, 0] rfl ?_
        exact ih _ _ _ _ h
set_option maxHeartbeats 4000000 in
set_option maxRecDepth 100000 in
theorem c_X3_dropVariant (l : Launch) (g : gT) (D : va_G) (cy : Nat → ClassId) (q_t q_t_keys q_t_sizes q_t_qualities q_t_lengths q_t_ranges q_t_names q_t_weights q_t_ties : Nat) {t_variants : Int32} {t_keys : Nat → Int64} {t_sizes : Nat → Int32} {t_qualities : Nat → Int32} {x1 : Int32} {N : Nat} {Q : Int32 → Int32 → (Nat → Int64) → (Nat → Int32) → (Nat → Int32) → Prop} (h : p_X3_dropVariant N t_variants t_keys t_sizes t_qualities x1 Q) : UC l yX3_dropVariant cX3_dropVariant 4 (some .int) rm_X3_dropVariant g D cy [.ref q_t, .int x1] [(q_t, .inr (3, [.int t_variants, .ref q_t_keys, .ref q_t_sizes, .ref q_t_qualities, .ref q_t_lengths, .ref q_t_ranges, .ref q_t_names, .ref q_t_weights, .ref q_t_ties])), (q_t_keys, .inl (cy 1, 48, .inr (.inl t_keys))), (q_t_sizes, .inl (cy 0, 16, .inl t_sizes)), (q_t_qualities, .inl (cy 0, 16, .inl t_qualities))] (fun v w => ∃ (r : Int32) (t_variants' : Int32) (t_keys' : Nat → Int64) (t_sizes' : Nat → Int32) (t_qualities' : Nat → Int32), v = some (.int r) ∧ w = [(q_t, .inr (3, [.int t_variants', .ref q_t_keys, .ref q_t_sizes, .ref q_t_qualities, .ref q_t_lengths, .ref q_t_ranges, .ref q_t_names, .ref q_t_weights, .ref q_t_ties])), (q_t_keys, .inl (cy 1, 48, .inr (.inl t_keys'))), (q_t_sizes, .inl (cy 0, 16, .inl t_sizes')), (q_t_qualities, .inl (cy 0, 16, .inl t_qualities'))] ∧ Q r t_variants' t_keys' t_sizes' t_qualities') := by
  refine UC_of (by decide +kernel) (Nat.le_of_ble_eq_true rfl) [(0, .ref q_t), (1, .int x1)] rfl (fun p e s m args below meth c A cx => ?_)
  unfold p_X3_dropVariant at h
  refine v_iload_n cx dX3_dropVariant_0 rfl 1 rfl ?_
  refine v_iconst (v := 1) cx dX3_dropVariant_1 (by decide) ?_
  refine v_iadd cx dX3_dropVariant_2 ?_
  refine v_istore_n (lv' := [(2, .int (x1 + 1)), (0, .ref q_t), (1, .int x1)]) cx dX3_dropVariant_3 rfl (by decide) rfl ?_
  refine v_lv (lv' := [(0, .ref q_t), (1, .int x1), (2, .int (x1 + 1))]) [1, 2, 0] rfl ?_
  refine w_X3_dropVariant_4 cx q_t q_t_keys q_t_sizes q_t_qualities q_t_lengths q_t_ranges q_t_names q_t_weights q_t_ties ?_ N _ _ _ _ h
  · intro x2_3 t_keys_4 t_sizes_5 t_qualities_6 h
    refine v_aload_n cx dX3_dropVariant_81 rfl 0 rfl ?_
    refine v_dup cx dX3_dropVariant_82 rfl ?_
    refine g_X3_37 cx dX3_dropVariant_83 0 rfl rfl ?_
    refine v_iconst (v := 1) cx dX3_dropVariant_86 (by decide) ?_
    refine v_isub cx dX3_dropVariant_87 ?_
    refine p_X3_37 (ws' := [(q_t, .inr (3, [.int (t_variants - 1), .ref q_t_keys, .ref q_t_sizes, .ref q_t_qualities, .ref q_t_lengths, .ref q_t_ranges, .ref q_t_names, .ref q_t_weights, .ref q_t_ties])), (q_t_keys, .inl (cy 1, 48, .inr (.inl t_keys_4))), (q_t_sizes, .inl (cy 0, 16, .inl t_sizes_5)), (q_t_qualities, .inl (cy 0, 16, .inl t_qualities_6))]) cx dX3_dropVariant_88 0 rfl rfl rfl (Nat.le_of_ble_eq_true rfl) rfl ?_
    refine v_aload_n cx dX3_dropVariant_91 rfl 0 rfl ?_
    refine g_X3_37 cx dX3_dropVariant_92 0 rfl rfl ?_
    exact v_ireturn cx rfl dX3_dropVariant_95 ⟨_, _, _, _, _, rfl, rfl, h⟩
abbrev rm_X5_rowOf : Room := { frames := 0, cells := 0, slots := 0, locals := 0 }
set_option maxHeartbeats 4000000 in
set_option maxRecDepth 100000 in
theorem c_X5_rowOf (l : Launch) (g : gT) (D : va_G) (cy : Nat → ClassId) {x0 : Int32} {x1 : Int32} {N : Nat} {Q : Int32 → Prop} (h : p_X5_rowOf N x0 x1 Q) : UC l yX5_rowOf cX5_rowOf 2 (some .int) rm_X5_rowOf g D cy [.int x0, .int x1] [] (fun v w => w = [] ∧ ∃ r : Int32, v = some (.int r) ∧ Q r) := by
  refine UC_of (by decide +kernel) (Nat.le_of_ble_eq_true rfl) [(0, .int x0), (1, .int x1)] rfl (fun p e s m args below meth c A cx => ?_)
  unfold p_X5_rowOf at h
  refine v_iload_n cx dX5_rowOf_0 rfl 0 rfl ?_
  refine v_bipush (v := 10) cx dX5_rowOf_1 (by decide) ?_
  refine v_imul cx dX5_rowOf_3 ?_
  refine v_iload_n cx dX5_rowOf_4 rfl 1 rfl ?_
  refine v_iadd cx dX5_rowOf_5 ?_
  exact v_ireturn cx rfl dX5_rowOf_6 ⟨rfl, _, rfl, h⟩
abbrev rm_X3_putList : Room := { frames := 1, cells := 0, slots := 0, locals := 21 }
set_option maxHeartbeats 4000000 in
set_option maxRecDepth 100000 in
theorem w_X3_putList_2 {p : Program} {l : Launch} {e : Env} {s : State} {m : MethodId} {args : Array Value} {below : List Frame} {meth : Method} {c : Code} {Q9 : State → Prop} {mn : String} {Ts : List Cond} {D : va_G} {cy : Nat → ClassId} {g : gT} {A : Nat → Prop} (cx : vC p s m args meth c cX3_putList 5 (some .int) RX3 mn Ts D cy g A) (q_t q_t_keys q_t_sizes q_t_qualities q_t_lengths q_t_ranges q_t_names q_t_weights q_t_ties q_p2 q_p2_text q_p2_ranges q_p2_names q_p2_weights q_p2_keys : Nat) {x1 : Int32} {t_variants : Int32} {t_lengths : Nat → Int32} {p2_at : Int32} {p2_number : Int32} {p2_key : Int64} {p2_keyNames : Int32} {p2_entries : Int32} {p2_size : Int32} {p2_ranges : Nat → Int64} {p2_names : Nat → Int32} {p2_weights : Nat → Int32} {N : Nat} {K62 : Int32 → (Nat → Int64) → (Nat → Int32) → (Nat → Int32) → Prop} (hK62 : ∀ (x3 : Int32) (t_ranges : Nat → Int64) (t_names : Nat → Int32) (t_weights : Nat → Int32), K62 x3 t_ranges t_names t_weights → vV p l e rm_X3_putList s m args below meth c Q9 5 D A 0 0 [(q_t, .inr (3, [.int t_variants, .ref q_t_keys, .ref q_t_sizes, .ref q_t_qualities, .ref q_t_lengths, .ref q_t_ranges, .ref q_t_names, .ref q_t_weights, .ref q_t_ties])), (q_t_ranges, .inl (cy 1, 60, .inr (.inl t_ranges))), (q_t_names, .inl (cy 0, 60, .inl t_names)), (q_t_weights, .inl (cy 0, 60, .inl t_weights)), (q_t_lengths, .inl (cy 0, 6, .inl t_lengths)), (q_p2, .inr (1, [.ref q_p2_text, .int p2_at, .int p2_number, .long p2_key, .int p2_keyNames, .ref q_p2_ranges, .ref q_p2_names, .ref q_p2_weights, .int p2_entries, .ref q_p2_keys, .int p2_size])), (q_p2_ranges, .inl (cy 1, 10, .inr (.inl p2_ranges))), (q_p2_names, .inl (cy 0, 10, .inl p2_names)), (q_p2_weights, .inl (cy 0, 10, .inl p2_weights))] 62 [(0, .ref q_t), (1, .int x1), (2, .ref q_p2), (3, .int x3)] []) : ∀ (n : Nat) (x3 : Int32) (t_ranges : Nat → Int64) (t_names : Nat → Int32) (t_weights : Nat → Int32), p_X3_putList_2 N x1 t_variants t_lengths p2_at p2_number p2_key p2_keyNames p2_entries p2_size p2_ranges p2_names p2_weights K62 n x3 t_ranges t_names t_weights → vV p l e rm_X3_putList s m args below meth c Q9 5 D A 0 0 [(q_t, .inr (3, [.int t_variants, .ref q_t_keys, .ref q_t_sizes, .ref q_t_qualities, .ref q_t_lengths, .ref q_t_ranges, .ref q_t_names, .ref q_t_weights, .ref q_t_ties])), (q_t_ranges, .inl (cy 1, 60, .inr (.inl t_ranges))), (q_t_names, .inl (cy 0, 60, .inl t_names)), (q_t_weights, .inl (cy 0, 60, .inl t_weights)), (q_t_lengths, .inl (cy 0, 6, .inl t_lengths)), (q_p2, .inr (1, [.ref q_p2_text, .int p2_at, .int p2_number, .long p2_key, .int p2_keyNames, .ref q_p2_ranges, .ref q_p2_names, .ref q_p2_weights, .int p2_entries, .ref q_p2_keys, .int p2_size])), (q_p2_ranges, .inl (cy 1, 10, .inr (.inl p2_ranges))), (q_p2_names, .inl (cy 0, 10, .inl p2_names)), (q_p2_weights, .inl (cy 0, 10, .inl p2_weights))] 2 [(0, .ref q_t), (1, .int x1), (2, .ref q_p2), (3, .int x3)] [] := by
  intro n
  induction n with
  | zero => intro x3 t_ranges t_names t_weights h; exact False.elim h
  | succ n ih =>
    intro x3 t_ranges t_names t_weights h
    unfold p_X3_putList_2 at h
    refine v_iload_n cx dX3_putList_2 rfl 3 rfl ?_
    refine v_aload_n cx dX3_putList_3 rfl 2 rfl ?_
    refine g_X3_57 cx dX3_putList_4 5 rfl rfl ?_
    refine v_icmp_ge (tgt := 62) cx dX3_putList_7 (by decide) h (fun h => ?_) (fun h => ?_)
    · refine v_lv (lv' := [(0, .ref q_t), (1, .int x1), (2, .ref q_p2), (3, .int x3)]) [0, 1, 2, 3] rfl ?_
      exact hK62 _ _ _ _ h
    · refine v_iload_n cx dX3_putList_10 rfl 1 rfl ?_
      refine v_iload_n cx dX3_putList_11 rfl 3 rfl ?_
      refine v_callSNpi (As := [.int x1, .int x3]) cx (c_X5_rowOf l g D cy  h) k_X3_60 (by decide) ⟨rfl, rfl⟩ (by decide) rfl rfl (Nat.le_of_ble_eq_true rfl) dX3_putList_12 [] [0, 1, 2, 3, 4, 5, 6, 7, 8] (by decide) rfl rfl rfl rfl (fun r_1 h => ?_)
      refine v_istore (lv' := [(4, .int r_1), (0, .ref q_t), (1, .int x1), (2, .ref q_p2), (3, .int x3)]) cx dX3_putList_15 (by decide) rfl ?_
      refine v_aload_n cx dX3_putList_17 rfl 1 rfl ?_
      refine g_X3_25 cx dX3_putList_18 0 rfl rfl ?_
      refine v_iload cx dX3_putList_21 0 rfl ?_
      refine v_aload_n cx dX3_putList_23 rfl 3 rfl ?_
      refine g_X3_64 cx dX3_putList_24 5 rfl rfl ?_
      refine v_iload_n cx dX3_putList_27 rfl 4 rfl ?_
      refine v_lald cx dX3_putList_28 6 rfl h (fun h => ?_)
      refine v_last (ws' := [(q_t, .inr (3, [.int t_variants, .ref q_t_keys, .ref q_t_sizes, .ref q_t_qualities, .ref q_t_lengths, .ref q_t_ranges, .ref q_t_names, .ref q_t_weights, .ref q_t_ties])), (q_t_ranges, .inl (cy 1, 60, .inr (.inl (vp_updL t_ranges r_1.toNatClampNeg (p2_ranges x3.toNatClampNeg))))), (q_t_names, .inl (cy 0, 60, .inl t_names)), (q_t_weights, .inl (cy 0, 60, .inl t_weights)), (q_t_lengths, .inl (cy 0, 6, .inl t_lengths)), (q_p2, .inr (1, [.ref q_p2_text, .int p2_at, .int p2_number, .long p2_key, .int p2_keyNames, .ref q_p2_ranges, .ref q_p2_names, .ref q_p2_weights, .int p2_entries, .ref q_p2_keys, .int p2_size])), (q_p2_ranges, .inl (cy 1, 10, .inr (.inl p2_ranges))), (q_p2_names, .inl (cy 0, 10, .inl p2_names)), (q_p2_weights, .inl (cy 0, 10, .inl p2_weights))]) cx dX3_putList_29 1 rfl h rfl (fun h => ?_)
      refine v_aload_n cx dX3_putList_30 rfl 1 rfl ?_
      refine g_X3_28 cx dX3_putList_31 0 rfl rfl ?_
      refine v_iload cx dX3_putList_34 0 rfl ?_
      refine v_aload_n cx dX3_putList_36 rfl 3 rfl ?_
      refine g_X3_65 cx dX3_putList_37 5 rfl rfl ?_
      refine v_iload_n cx dX3_putList_40 rfl 4 rfl ?_
      refine v_iald cx dX3_putList_41 7 rfl h (fun h => ?_)
      refine v_iast (ws' := [(q_t, .inr (3, [.int t_variants, .ref q_t_keys, .ref q_t_sizes, .ref q_t_qualities, .ref q_t_lengths, .ref q_t_ranges, .ref q_t_names, .ref q_t_weights, .ref q_t_ties])), (q_t_ranges, .inl (cy 1, 60, .inr (.inl (vp_updL t_ranges r_1.toNatClampNeg (p2_ranges x3.toNatClampNeg))))), (q_t_names, .inl (cy 0, 60, .inl (upd t_names r_1.toNatClampNeg (p2_names x3.toNatClampNeg)))), (q_t_weights, .inl (cy 0, 60, .inl t_weights)), (q_t_lengths, .inl (cy 0, 6, .inl t_lengths)), (q_p2, .inr (1, [.ref q_p2_text, .int p2_at, .int p2_number, .long p2_key, .int p2_keyNames, .ref q_p2_ranges, .ref q_p2_names, .ref q_p2_weights, .int p2_entries, .ref q_p2_keys, .int p2_size])), (q_p2_ranges, .inl (cy 1, 10, .inr (.inl p2_ranges))), (q_p2_names, .inl (cy 0, 10, .inl p2_names)), (q_p2_weights, .inl (cy 0, 10, .inl p2_weights))]) cx dX3_putList_42 2 rfl h rfl (fun h => ?_)
      refine v_aload_n cx dX3_putList_43 rfl 1 rfl ?_
      refine g_X3_31 cx dX3_putList_44 0 rfl rfl ?_
      refine v_iload cx dX3_putList_47 0 rfl ?_
      refine v_aload_n cx dX3_putList_49 rfl 3 rfl ?_
      refine g_X3_66 cx dX3_putList_50 5 rfl rfl ?_
      refine v_iload_n cx dX3_putList_53 rfl 4 rfl ?_
      refine v_iald cx dX3_putList_54 8 rfl h (fun h => ?_)
      refine v_iast (ws' := [(q_t, .inr (3, [.int t_variants, .ref q_t_keys, .ref q_t_sizes, .ref q_t_qualities, .ref q_t_lengths, .ref q_t_ranges, .ref q_t_names, .ref q_t_weights, .ref q_t_ties])), (q_t_ranges, .inl (cy 1, 60, .inr (.inl (vp_updL t_ranges r_1.toNatClampNeg (p2_ranges x3.toNatClampNeg))))), (q_t_names, .inl (cy 0, 60, .inl (upd t_names r_1.toNatClampNeg (p2_names x3.toNatClampNeg)))), (q_t_weights, .inl (cy 0, 60, .inl (upd t_weights r_1.toNatClampNeg (p2_weights x3.toNatClampNeg)))), (q_t_lengths, .inl (cy 0, 6, .inl t_lengths)), (q_p2, .inr (1, [.ref q_p2_text, .int p2_at, .int p2_number, .long p2_key, .int p2_keyNames, .ref q_p2_ranges, .ref q_p2_names, .ref q_p2_weights, .int p2_entries, .ref q_p2_keys, .int p2_size])), (q_p2_ranges, .inl (cy 1, 10, .inr (.inl p2_ranges))), (q_p2_names, .inl (cy 0, 10, .inl p2_names)), (q_p2_weights, .inl (cy 0, 10, .inl p2_weights))]) cx dX3_putList_55 3 rfl h rfl (fun h => ?_)
      refine v_iinc (v := x3 + 1) (k0 := 4) (lv' := [(3, .int (x3 + 1)), (4, .int r_1), (0, .ref q_t), (1, .int x1), (2, .ref q_p2)]) cx dX3_putList_56 rfl rfl (by decide) rfl ?_
      refine v_goto (tgt := 2) cx dX3_putList_59 (by decide) ?_
      refine v_lv (lv' := [(0, .ref q_t), (1, .int x1), (2, .ref q_p2), (3, .int (x3 + 1))]) [2, 3, 4, 0] rfl ?_
      exact ih _ _ _ _ h
set_option maxHeartbeats 4000000 in
set_option maxRecDepth 100000 in
theorem c_X3_putList (l : Launch) (g : gT) (D : va_G) (cy : Nat → ClassId) (q_t q_t_keys q_t_sizes q_t_qualities q_t_lengths q_t_ranges q_t_names q_t_weights q_t_ties q_p2 q_p2_text q_p2_ranges q_p2_names q_p2_weights q_p2_keys : Nat) {t_variants : Int32} {t_ranges : Nat → Int64} {t_names : Nat → Int32} {t_weights : Nat → Int32} {t_lengths : Nat → Int32} {p2_at : Int32} {p2_number : Int32} {p2_key : Int64} {p2_keyNames : Int32} {p2_entries : Int32} {p2_size : Int32} {p2_ranges : Nat → Int64} {p2_names : Nat → Int32} {p2_weights : Nat → Int32} {x1 : Int32} {N : Nat} {Q : Int32 → (Nat → Int64) → (Nat → Int32) → (Nat → Int32) → (Nat → Int32) → Prop} (h : p_X3_putList N t_variants t_ranges t_names t_weights t_lengths p2_at p2_number p2_key p2_keyNames p2_entries p2_size p2_ranges p2_names p2_weights x1 Q) : UC l yX3_putList cX3_putList 5 (some .int) rm_X3_putList g D cy [.ref q_t, .int x1, .ref q_p2] [(q_t, .inr (3, [.int t_variants, .ref q_t_keys, .ref q_t_sizes, .ref q_t_qualities, .ref q_t_lengths, .ref q_t_ranges, .ref q_t_names, .ref q_t_weights, .ref q_t_ties])), (q_t_ranges, .inl (cy 1, 60, .inr (.inl t_ranges))), (q_t_names, .inl (cy 0, 60, .inl t_names)), (q_t_weights, .inl (cy 0, 60, .inl t_weights)), (q_t_lengths, .inl (cy 0, 6, .inl t_lengths)), (q_p2, .inr (1, [.ref q_p2_text, .int p2_at, .int p2_number, .long p2_key, .int p2_keyNames, .ref q_p2_ranges, .ref q_p2_names, .ref q_p2_weights, .int p2_entries, .ref q_p2_keys, .int p2_size])), (q_p2_ranges, .inl (cy 1, 10, .inr (.inl p2_ranges))), (q_p2_names, .inl (cy 0, 10, .inl p2_names)), (q_p2_weights, .inl (cy 0, 10, .inl p2_weights))] (fun v w => ∃ (r : Int32) (t_ranges' : Nat → Int64) (t_names' : Nat → Int32) (t_weights' : Nat → Int32) (t_lengths' : Nat → Int32), v = some (.int r) ∧ w = [(q_t, .inr (3, [.int t_variants, .ref q_t_keys, .ref q_t_sizes, .ref q_t_qualities, .ref q_t_lengths, .ref q_t_ranges, .ref q_t_names, .ref q_t_weights, .ref q_t_ties])), (q_t_ranges, .inl (cy 1, 60, .inr (.inl t_ranges'))), (q_t_names, .inl (cy 0, 60, .inl t_names')), (q_t_weights, .inl (cy 0, 60, .inl t_weights')), (q_t_lengths, .inl (cy 0, 6, .inl t_lengths')), (q_p2, .inr (1, [.ref q_p2_text, .int p2_at, .int p2_number, .long p2_key, .int p2_keyNames, .ref q_p2_ranges, .ref q_p2_names, .ref q_p2_weights, .int p2_entries, .ref q_p2_keys, .int p2_size])), (q_p2_ranges, .inl (cy 1, 10, .inr (.inl p2_ranges))), (q_p2_names, .inl (cy 0, 10, .inl p2_names)), (q_p2_weights, .inl (cy 0, 10, .inl p2_weights))] ∧ Q r t_ranges' t_names' t_weights' t_lengths') := by
  refine UC_of (by decide +kernel) (Nat.le_of_ble_eq_true rfl) [(0, .ref q_t), (1, .int x1), (2, .ref q_p2)] rfl (fun p e s m args below meth c A cx => ?_)
  unfold p_X3_putList at h
  refine v_iconst (v := 0) cx dX3_putList_0 (by decide) ?_
  refine v_istore_n (lv' := [(3, .int 0), (0, .ref q_t), (1, .int x1), (2, .ref q_p2)]) cx dX3_putList_1 rfl (by decide) rfl ?_
  refine v_lv (lv' := [(0, .ref q_t), (1, .int x1), (2, .ref q_p2), (3, .int 0)]) [1, 2, 3, 0] rfl ?_
  refine w_X3_putList_2 cx q_t q_t_keys q_t_sizes q_t_qualities q_t_lengths q_t_ranges q_t_names q_t_weights q_t_ties q_p2 q_p2_text q_p2_ranges q_p2_names q_p2_weights q_p2_keys ?_ N _ _ _ _ h
  · intro x3_2 t_ranges_3 t_names_4 t_weights_5 h
    refine v_aload_n cx dX3_putList_62 rfl 0 rfl ?_
    refine g_X3_22 cx dX3_putList_63 0 rfl rfl ?_
    refine v_iload_n cx dX3_putList_66 rfl 1 rfl ?_
    refine v_aload_n cx dX3_putList_67 rfl 2 rfl ?_
    refine g_X3_57 cx dX3_putList_68 5 rfl rfl ?_
    refine v_iast (ws' := [(q_t, .inr (3, [.int t_variants, .ref q_t_keys, .ref q_t_sizes, .ref q_t_qualities, .ref q_t_lengths, .ref q_t_ranges, .ref q_t_names, .ref q_t_weights, .ref q_t_ties])), (q_t_ranges, .inl (cy 1, 60, .inr (.inl t_ranges_3))), (q_t_names, .inl (cy 0, 60, .inl t_names_4)), (q_t_weights, .inl (cy 0, 60, .inl t_weights_5)), (q_t_lengths, .inl (cy 0, 6, .inl (upd t_lengths x1.toNatClampNeg p2_entries))), (q_p2, .inr (1, [.ref q_p2_text, .int p2_at, .int p2_number, .long p2_key, .int p2_keyNames, .ref q_p2_ranges, .ref q_p2_names, .ref q_p2_weights, .int p2_entries, .ref q_p2_keys, .int p2_size])), (q_p2_ranges, .inl (cy 1, 10, .inr (.inl p2_ranges))), (q_p2_names, .inl (cy 0, 10, .inl p2_names)), (q_p2_weights, .inl (cy 0, 10, .inl p2_weights))]) cx dX3_putList_71 4 rfl h rfl (fun h => ?_)
    refine v_aload_n cx dX3_putList_72 rfl 2 rfl ?_
    refine g_X3_57 cx dX3_putList_73 5 rfl rfl ?_
    exact v_ireturn cx rfl dX3_putList_76 ⟨_, _, _, _, _, rfl, rfl, h⟩
abbrev rm_X3_dropEntry : Room := { frames := 1, cells := 0, slots := 0, locals := 21 }
set_option maxHeartbeats 4000000 in
set_option maxRecDepth 100000 in
theorem w_X3_dropEntry_4 {p : Program} {l : Launch} {e : Env} {s : State} {m : MethodId} {args : Array Value} {below : List Frame} {meth : Method} {c : Code} {Q9 : State → Prop} {mn : String} {Ts : List Cond} {D : va_G} {cy : Nat → ClassId} {g : gT} {A : Nat → Prop} (cx : vC p s m args meth c cX3_dropEntry 5 (some .int) RX3 mn Ts D cy g A) (q_t q_t_keys q_t_sizes q_t_qualities q_t_lengths q_t_ranges q_t_names q_t_weights q_t_ties : Nat) {x1 : Int32} {x2 : Int32} {t_variants : Int32} {t_lengths : Nat → Int32} {N : Nat} {K75 : Int32 → (Nat → Int64) → (Nat → Int32) → (Nat → Int32) → Prop} (hK75 : ∀ (x3 : Int32) (t_ranges : Nat → Int64) (t_names : Nat → Int32) (t_weights : Nat → Int32), K75 x3 t_ranges t_names t_weights → vV p l e rm_X3_dropEntry s m args below meth c Q9 5 D A 0 0 [(q_t, .inr (3, [.int t_variants, .ref q_t_keys, .ref q_t_sizes, .ref q_t_qualities, .ref q_t_lengths, .ref q_t_ranges, .ref q_t_names, .ref q_t_weights, .ref q_t_ties])), (q_t_lengths, .inl (cy 0, 6, .inl t_lengths)), (q_t_ranges, .inl (cy 1, 60, .inr (.inl t_ranges))), (q_t_names, .inl (cy 0, 60, .inl t_names)), (q_t_weights, .inl (cy 0, 60, .inl t_weights))] 75 [(0, .ref q_t), (1, .int x1), (2, .int x2), (3, .int x3)] []) : ∀ (n : Nat) (x3 : Int32) (t_ranges : Nat → Int64) (t_names : Nat → Int32) (t_weights : Nat → Int32), p_X3_dropEntry_4 N x1 x2 t_variants t_lengths K75 n x3 t_ranges t_names t_weights → vV p l e rm_X3_dropEntry s m args below meth c Q9 5 D A 0 0 [(q_t, .inr (3, [.int t_variants, .ref q_t_keys, .ref q_t_sizes, .ref q_t_qualities, .ref q_t_lengths, .ref q_t_ranges, .ref q_t_names, .ref q_t_weights, .ref q_t_ties])), (q_t_lengths, .inl (cy 0, 6, .inl t_lengths)), (q_t_ranges, .inl (cy 1, 60, .inr (.inl t_ranges))), (q_t_names, .inl (cy 0, 60, .inl t_names)), (q_t_weights, .inl (cy 0, 60, .inl t_weights))] 4 [(0, .ref q_t), (1, .int x1), (2, .int x2), (3, .int x3)] [] := by
  intro n
  induction n with
  | zero => intro x3 t_ranges t_names t_weights h; exact False.elim h
  | succ n ih =>
    intro x3 t_ranges t_names t_weights h
    unfold p_X3_dropEntry_4 at h
    refine v_iload_n cx dX3_dropEntry_4 rfl 3 rfl ?_
    refine v_aload_n cx dX3_dropEntry_5 rfl 0 rfl ?_
    refine g_X3_22 cx dX3_dropEntry_6 0 rfl rfl ?_
    refine v_iload_n cx dX3_dropEntry_9 rfl 1 rfl ?_
    refine v_iald cx dX3_dropEntry_10 1 rfl h (fun h => ?_)
    refine v_icmp_ge (tgt := 75) cx dX3_dropEntry_11 (by decide) h (fun h => ?_) (fun h => ?_)
    · refine v_lv (lv' := [(0, .ref q_t), (1, .int x1), (2, .int x2), (3, .int x3)]) [0, 1, 2, 3] rfl ?_
      exact hK75 _ _ _ _ h
    · refine v_iload_n cx dX3_dropEntry_14 rfl 1 rfl ?_
      refine v_iload_n cx dX3_dropEntry_15 rfl 3 rfl ?_
      refine v_callSNpi (As := [.int x1, .int x3]) cx (c_X5_rowOf l g D cy  h) k_X3_60 (by decide) ⟨rfl, rfl⟩ (by decide) rfl rfl (Nat.le_of_ble_eq_true rfl) dX3_dropEntry_16 [] [0, 1, 2, 3, 4] (by decide) rfl rfl rfl rfl (fun r_1 h => ?_)
      refine v_istore (lv' := [(4, .int r_1), (0, .ref q_t), (1, .int x1), (2, .int x2), (3, .int x3)]) cx dX3_dropEntry_19 (by decide) rfl ?_
      refine v_aload_n cx dX3_dropEntry_21 rfl 1 rfl ?_
      refine g_X3_25 cx dX3_dropEntry_22 0 rfl rfl ?_
      refine v_iload cx dX3_dropEntry_25 0 rfl ?_
      refine v_iconst (v := 1) cx dX3_dropEntry_27 (by decide) ?_
      refine v_isub cx dX3_dropEntry_28 ?_
      refine v_aload_n cx dX3_dropEntry_29 rfl 1 rfl ?_
      refine g_X3_25 cx dX3_dropEntry_30 0 rfl rfl ?_
      refine v_iload cx dX3_dropEntry_33 0 rfl ?_
      refine v_lald cx dX3_dropEntry_35 2 rfl h (fun h => ?_)
      refine v_last (ws' := [(q_t, .inr (3, [.int t_variants, .ref q_t_keys, .ref q_t_sizes, .ref q_t_qualities, .ref q_t_lengths, .ref q_t_ranges, .ref q_t_names, .ref q_t_weights, .ref q_t_ties])), (q_t_lengths, .inl (cy 0, 6, .inl t_lengths)), (q_t_ranges, .inl (cy 1, 60, .inr (.inl (vp_updL t_ranges ((r_1 - 1).toNatClampNeg) (t_ranges r_1.toNatClampNeg))))), (q_t_names, .inl (cy 0, 60, .inl t_names)), (q_t_weights, .inl (cy 0, 60, .inl t_weights))]) cx dX3_dropEntry_36 2 rfl h rfl (fun h => ?_)
      refine v_aload_n cx dX3_dropEntry_37 rfl 1 rfl ?_
      refine g_X3_28 cx dX3_dropEntry_38 0 rfl rfl ?_
      refine v_iload cx dX3_dropEntry_41 0 rfl ?_
      refine v_iconst (v := 1) cx dX3_dropEntry_43 (by decide) ?_
      refine v_isub cx dX3_dropEntry_44 ?_
      refine v_aload_n cx dX3_dropEntry_45 rfl 1 rfl ?_
      refine g_X3_28 cx dX3_dropEntry_46 0 rfl rfl ?_
      refine v_iload cx dX3_dropEntry_49 0 rfl ?_
      refine v_iald cx dX3_dropEntry_51 3 rfl h (fun h => ?_)
      refine v_iast (ws' := [(q_t, .inr (3, [.int t_variants, .ref q_t_keys, .ref q_t_sizes, .ref q_t_qualities, .ref q_t_lengths, .ref q_t_ranges, .ref q_t_names, .ref q_t_weights, .ref q_t_ties])), (q_t_lengths, .inl (cy 0, 6, .inl t_lengths)), (q_t_ranges, .inl (cy 1, 60, .inr (.inl (vp_updL t_ranges ((r_1 - 1).toNatClampNeg) (t_ranges r_1.toNatClampNeg))))), (q_t_names, .inl (cy 0, 60, .inl (upd t_names ((r_1 - 1).toNatClampNeg) (t_names r_1.toNatClampNeg)))), (q_t_weights, .inl (cy 0, 60, .inl t_weights))]) cx dX3_dropEntry_52 3 rfl h rfl (fun h => ?_)
      refine v_aload_n cx dX3_dropEntry_53 rfl 1 rfl ?_
      refine g_X3_31 cx dX3_dropEntry_54 0 rfl rfl ?_
      refine v_iload cx dX3_dropEntry_57 0 rfl ?_
      refine v_iconst (v := 1) cx dX3_dropEntry_59 (by decide) ?_
      refine v_isub cx dX3_dropEntry_60 ?_
      refine v_aload_n cx dX3_dropEntry_61 rfl 1 rfl ?_
      refine g_X3_31 cx dX3_dropEntry_62 0 rfl rfl ?_
      refine v_iload cx dX3_dropEntry_65 0 rfl ?_
      refine v_iald cx dX3_dropEntry_67 4 rfl h (fun h => ?_)
      refine v_iast (ws' := [(q_t, .inr (3, [.int t_variants, .ref q_t_keys, .ref q_t_sizes, .ref q_t_qualities, .ref q_t_lengths, .ref q_t_ranges, .ref q_t_names, .ref q_t_weights, .ref q_t_ties])), (q_t_lengths, .inl (cy 0, 6, .inl t_lengths)), (q_t_ranges, .inl (cy 1, 60, .inr (.inl (vp_updL t_ranges ((r_1 - 1).toNatClampNeg) (t_ranges r_1.toNatClampNeg))))), (q_t_names, .inl (cy 0, 60, .inl (upd t_names ((r_1 - 1).toNatClampNeg) (t_names r_1.toNatClampNeg)))), (q_t_weights, .inl (cy 0, 60, .inl (upd t_weights ((r_1 - 1).toNatClampNeg) (t_weights r_1.toNatClampNeg))))]) cx dX3_dropEntry_68 4 rfl h rfl (fun h => ?_)
      refine v_iinc (v := x3 + 1) (k0 := 4) (lv' := [(3, .int (x3 + 1)), (4, .int r_1), (0, .ref q_t), (1, .int x1), (2, .int x2)]) cx dX3_dropEntry_69 rfl rfl (by decide) rfl ?_
      refine v_goto (tgt := 4) cx dX3_dropEntry_72 (by decide) ?_
      refine v_lv (lv' := [(0, .ref q_t), (1, .int x1), (2, .int x2), (3, .int (x3 + 1))]) [2, 3, 4, 0] rfl ?_
      exact ih _ _ _ _ h
set_option maxHeartbeats 4000000 in
set_option maxRecDepth 100000 in
theorem c_X3_dropEntry (l : Launch) (g : gT) (D : va_G) (cy : Nat → ClassId) (q_t q_t_keys q_t_sizes q_t_qualities q_t_lengths q_t_ranges q_t_names q_t_weights q_t_ties : Nat) {t_variants : Int32} {t_lengths : Nat → Int32} {t_ranges : Nat → Int64} {t_names : Nat → Int32} {t_weights : Nat → Int32} {x1 : Int32} {x2 : Int32} {N : Nat} {Q : Int32 → (Nat → Int32) → (Nat → Int64) → (Nat → Int32) → (Nat → Int32) → Prop} (h : p_X3_dropEntry N t_variants t_lengths t_ranges t_names t_weights x1 x2 Q) : UC l yX3_dropEntry cX3_dropEntry 5 (some .int) rm_X3_dropEntry g D cy [.ref q_t, .int x1, .int x2] [(q_t, .inr (3, [.int t_variants, .ref q_t_keys, .ref q_t_sizes, .ref q_t_qualities, .ref q_t_lengths, .ref q_t_ranges, .ref q_t_names, .ref q_t_weights, .ref q_t_ties])), (q_t_lengths, .inl (cy 0, 6, .inl t_lengths)), (q_t_ranges, .inl (cy 1, 60, .inr (.inl t_ranges))), (q_t_names, .inl (cy 0, 60, .inl t_names)), (q_t_weights, .inl (cy 0, 60, .inl t_weights))] (fun v w => ∃ (r : Int32) (t_lengths' : Nat → Int32) (t_ranges' : Nat → Int64) (t_names' : Nat → Int32) (t_weights' : Nat → Int32), v = some (.int r) ∧ w = [(q_t, .inr (3, [.int t_variants, .ref q_t_keys, .ref q_t_sizes, .ref q_t_qualities, .ref q_t_lengths, .ref q_t_ranges, .ref q_t_names, .ref q_t_weights, .ref q_t_ties])), (q_t_lengths, .inl (cy 0, 6, .inl t_lengths')), (q_t_ranges, .inl (cy 1, 60, .inr (.inl t_ranges'))), (q_t_names, .inl (cy 0, 60, .inl t_names')), (q_t_weights, .inl (cy 0, 60, .inl t_weights'))] ∧ Q r t_lengths' t_ranges' t_names' t_weights') := by
  refine UC_of (by decide +kernel) (Nat.le_of_ble_eq_true rfl) [(0, .ref q_t), (1, .int x1), (2, .int x2)] rfl (fun p e s m args below meth c A cx => ?_)
  unfold p_X3_dropEntry at h
  refine v_iload_n cx dX3_dropEntry_0 rfl 2 rfl ?_
  refine v_iconst (v := 1) cx dX3_dropEntry_1 (by decide) ?_
  refine v_iadd cx dX3_dropEntry_2 ?_
  refine v_istore_n (lv' := [(3, .int (x2 + 1)), (0, .ref q_t), (1, .int x1), (2, .int x2)]) cx dX3_dropEntry_3 rfl (by decide) rfl ?_
  refine v_lv (lv' := [(0, .ref q_t), (1, .int x1), (2, .int x2), (3, .int (x2 + 1))]) [1, 2, 3, 0] rfl ?_
  refine w_X3_dropEntry_4 cx q_t q_t_keys q_t_sizes q_t_qualities q_t_lengths q_t_ranges q_t_names q_t_weights q_t_ties ?_ N _ _ _ _ h
  · intro x3_2 t_ranges_3 t_names_4 t_weights_5 h
    refine v_aload_n cx dX3_dropEntry_75 rfl 0 rfl ?_
    refine g_X3_22 cx dX3_dropEntry_76 0 rfl rfl ?_
    refine v_iload_n cx dX3_dropEntry_79 rfl 1 rfl ?_
    refine v_dup2 cx dX3_dropEntry_80 rfl rfl ?_
    refine v_iald cx dX3_dropEntry_81 1 rfl h (fun h => ?_)
    refine v_iconst (v := 1) cx dX3_dropEntry_82 (by decide) ?_
    refine v_isub cx dX3_dropEntry_83 ?_
    refine v_iast (ws' := [(q_t, .inr (3, [.int t_variants, .ref q_t_keys, .ref q_t_sizes, .ref q_t_qualities, .ref q_t_lengths, .ref q_t_ranges, .ref q_t_names, .ref q_t_weights, .ref q_t_ties])), (q_t_lengths, .inl (cy 0, 6, .inl (upd t_lengths x1.toNatClampNeg ((t_lengths x1.toNatClampNeg) - 1)))), (q_t_ranges, .inl (cy 1, 60, .inr (.inl t_ranges_3))), (q_t_names, .inl (cy 0, 60, .inl t_names_4)), (q_t_weights, .inl (cy 0, 60, .inl t_weights_5))]) cx dX3_dropEntry_84 1 rfl h rfl (fun h => ?_)
    refine v_aload_n cx dX3_dropEntry_85 rfl 0 rfl ?_
    refine g_X3_22 cx dX3_dropEntry_86 0 rfl rfl ?_
    refine v_iload_n cx dX3_dropEntry_89 rfl 1 rfl ?_
    refine v_iald cx dX3_dropEntry_90 1 rfl h (fun h => ?_)
    exact v_ireturn cx rfl dX3_dropEntry_91 ⟨_, _, _, _, _, rfl, rfl, h⟩
abbrev rm_X3_exchangeRows : Room := { frames := 0, cells := 0, slots := 0, locals := 0 }
set_option maxHeartbeats 4000000 in
set_option maxRecDepth 100000 in
theorem c_X3_exchangeRows (l : Launch) (g : gT) (D : va_G) (cy : Nat → ClassId) (q_t q_t_keys q_t_sizes q_t_qualities q_t_lengths q_t_ranges q_t_names q_t_weights q_t_ties : Nat) {t_variants : Int32} {t_ranges : Nat → Int64} {t_names : Nat → Int32} {t_weights : Nat → Int32} {x1 : Int32} {x2 : Int32} {N : Nat} {Q : (Nat → Int64) → (Nat → Int32) → (Nat → Int32) → Prop} (h : p_X3_exchangeRows N t_variants t_ranges t_names t_weights x1 x2 Q) : UC l yX3_exchangeRows cX3_exchangeRows 7 none rm_X3_exchangeRows g D cy [.ref q_t, .int x1, .int x2] [(q_t, .inr (3, [.int t_variants, .ref q_t_keys, .ref q_t_sizes, .ref q_t_qualities, .ref q_t_lengths, .ref q_t_ranges, .ref q_t_names, .ref q_t_weights, .ref q_t_ties])), (q_t_ranges, .inl (cy 1, 60, .inr (.inl t_ranges))), (q_t_names, .inl (cy 0, 60, .inl t_names)), (q_t_weights, .inl (cy 0, 60, .inl t_weights))] (fun v w => ∃ (t_ranges' : Nat → Int64) (t_names' : Nat → Int32) (t_weights' : Nat → Int32), v = none ∧ w = [(q_t, .inr (3, [.int t_variants, .ref q_t_keys, .ref q_t_sizes, .ref q_t_qualities, .ref q_t_lengths, .ref q_t_ranges, .ref q_t_names, .ref q_t_weights, .ref q_t_ties])), (q_t_ranges, .inl (cy 1, 60, .inr (.inl t_ranges'))), (q_t_names, .inl (cy 0, 60, .inl t_names')), (q_t_weights, .inl (cy 0, 60, .inl t_weights'))] ∧ Q t_ranges' t_names' t_weights') := by
  refine UC_of (by decide +kernel) (Nat.le_of_ble_eq_true rfl) [(0, .ref q_t), (1, .int x1), (2, .int x2)] rfl (fun p e s m args below meth c A cx => ?_)
  unfold p_X3_exchangeRows at h
  refine v_aload_n cx dX3_exchangeRows_0 rfl 0 rfl ?_
  refine g_X3_25 cx dX3_exchangeRows_1 0 rfl rfl ?_
  refine v_iload_n cx dX3_exchangeRows_4 rfl 1 rfl ?_
  refine v_lald cx dX3_exchangeRows_5 1 rfl h (fun h => ?_)
  refine v_lstore_n (lv' := [(3, .long (t_ranges x1.toNatClampNeg)), (0, .ref q_t), (1, .int x1), (2, .int x2)]) cx dX3_exchangeRows_6 rfl (by decide) rfl ?_
  refine v_aload_n cx dX3_exchangeRows_7 rfl 1 rfl ?_
  refine g_X3_25 cx dX3_exchangeRows_8 0 rfl rfl ?_
  refine v_iload_n cx dX3_exchangeRows_11 rfl 2 rfl ?_
  refine v_aload_n cx dX3_exchangeRows_12 rfl 1 rfl ?_
  refine g_X3_25 cx dX3_exchangeRows_13 0 rfl rfl ?_
  refine v_iload_n cx dX3_exchangeRows_16 rfl 3 rfl ?_
  refine v_lald cx dX3_exchangeRows_17 1 rfl h (fun h => ?_)
  refine v_last (ws' := [(q_t, .inr (3, [.int t_variants, .ref q_t_keys, .ref q_t_sizes, .ref q_t_qualities, .ref q_t_lengths, .ref q_t_ranges, .ref q_t_names, .ref q_t_weights, .ref q_t_ties])), (q_t_ranges, .inl (cy 1, 60, .inr (.inl (vp_updL t_ranges x1.toNatClampNeg (t_ranges x2.toNatClampNeg))))), (q_t_names, .inl (cy 0, 60, .inl t_names)), (q_t_weights, .inl (cy 0, 60, .inl t_weights))]) cx dX3_exchangeRows_18 1 rfl h rfl (fun h => ?_)
  refine v_aload_n cx dX3_exchangeRows_19 rfl 1 rfl ?_
  refine g_X3_25 cx dX3_exchangeRows_20 0 rfl rfl ?_
  refine v_iload_n cx dX3_exchangeRows_23 rfl 3 rfl ?_
  refine v_lload_n cx dX3_exchangeRows_24 rfl 0 rfl ?_
  refine v_last (ws' := [(q_t, .inr (3, [.int t_variants, .ref q_t_keys, .ref q_t_sizes, .ref q_t_qualities, .ref q_t_lengths, .ref q_t_ranges, .ref q_t_names, .ref q_t_weights, .ref q_t_ties])), (q_t_ranges, .inl (cy 1, 60, .inr (.inl (vp_updL (vp_updL t_ranges x1.toNatClampNeg (t_ranges x2.toNatClampNeg)) x2.toNatClampNeg (t_ranges x1.toNatClampNeg))))), (q_t_names, .inl (cy 0, 60, .inl t_names)), (q_t_weights, .inl (cy 0, 60, .inl t_weights))]) cx dX3_exchangeRows_25 1 rfl h rfl (fun h => ?_)
  refine v_aload_n cx dX3_exchangeRows_26 rfl 1 rfl ?_
  refine g_X3_28 cx dX3_exchangeRows_27 0 rfl rfl ?_
  refine v_iload_n cx dX3_exchangeRows_30 rfl 2 rfl ?_
  refine v_iald cx dX3_exchangeRows_31 2 rfl h (fun h => ?_)
  refine v_istore (lv' := [(5, .int (t_names x1.toNatClampNeg)), (3, .long (t_ranges x1.toNatClampNeg)), (0, .ref q_t), (1, .int x1), (2, .int x2)]) cx dX3_exchangeRows_32 (by decide) rfl ?_
  refine v_aload_n cx dX3_exchangeRows_34 rfl 2 rfl ?_
  refine g_X3_28 cx dX3_exchangeRows_35 0 rfl rfl ?_
  refine v_iload_n cx dX3_exchangeRows_38 rfl 3 rfl ?_
  refine v_aload_n cx dX3_exchangeRows_39 rfl 2 rfl ?_
  refine g_X3_28 cx dX3_exchangeRows_40 0 rfl rfl ?_
  refine v_iload_n cx dX3_exchangeRows_43 rfl 4 rfl ?_
  refine v_iald cx dX3_exchangeRows_44 2 rfl h (fun h => ?_)
  refine v_iast (ws' := [(q_t, .inr (3, [.int t_variants, .ref q_t_keys, .ref q_t_sizes, .ref q_t_qualities, .ref q_t_lengths, .ref q_t_ranges, .ref q_t_names, .ref q_t_weights, .ref q_t_ties])), (q_t_ranges, .inl (cy 1, 60, .inr (.inl (vp_updL (vp_updL t_ranges x1.toNatClampNeg (t_ranges x2.toNatClampNeg)) x2.toNatClampNeg (t_ranges x1.toNatClampNeg))))), (q_t_names, .inl (cy 0, 60, .inl (upd t_names x1.toNatClampNeg (t_names x2.toNatClampNeg)))), (q_t_weights, .inl (cy 0, 60, .inl t_weights))]) cx dX3_exchangeRows_45 2 rfl h rfl (fun h => ?_)
  refine v_aload_n cx dX3_exchangeRows_46 rfl 2 rfl ?_
  refine g_X3_28 cx dX3_exchangeRows_47 0 rfl rfl ?_
  refine v_iload_n cx dX3_exchangeRows_50 rfl 4 rfl ?_
  refine v_iload cx dX3_exchangeRows_51 0 rfl ?_
  refine v_iast (ws' := [(q_t, .inr (3, [.int t_variants, .ref q_t_keys, .ref q_t_sizes, .ref q_t_qualities, .ref q_t_lengths, .ref q_t_ranges, .ref q_t_names, .ref q_t_weights, .ref q_t_ties])), (q_t_ranges, .inl (cy 1, 60, .inr (.inl (vp_updL (vp_updL t_ranges x1.toNatClampNeg (t_ranges x2.toNatClampNeg)) x2.toNatClampNeg (t_ranges x1.toNatClampNeg))))), (q_t_names, .inl (cy 0, 60, .inl (upd (upd t_names x1.toNatClampNeg (t_names x2.toNatClampNeg)) x2.toNatClampNeg (t_names x1.toNatClampNeg)))), (q_t_weights, .inl (cy 0, 60, .inl t_weights))]) cx dX3_exchangeRows_53 2 rfl h rfl (fun h => ?_)
  refine v_aload_n cx dX3_exchangeRows_54 rfl 2 rfl ?_
  refine g_X3_31 cx dX3_exchangeRows_55 0 rfl rfl ?_
  refine v_iload_n cx dX3_exchangeRows_58 rfl 3 rfl ?_
  refine v_iald cx dX3_exchangeRows_59 3 rfl h (fun h => ?_)
  refine v_istore (lv' := [(6, .int (t_weights x1.toNatClampNeg)), (5, .int (t_names x1.toNatClampNeg)), (3, .long (t_ranges x1.toNatClampNeg)), (0, .ref q_t), (1, .int x1), (2, .int x2)]) cx dX3_exchangeRows_60 (by decide) rfl ?_
  refine v_aload_n cx dX3_exchangeRows_62 rfl 3 rfl ?_
  refine g_X3_31 cx dX3_exchangeRows_63 0 rfl rfl ?_
  refine v_iload_n cx dX3_exchangeRows_66 rfl 4 rfl ?_
  refine v_aload_n cx dX3_exchangeRows_67 rfl 3 rfl ?_
  refine g_X3_31 cx dX3_exchangeRows_68 0 rfl rfl ?_
  refine v_iload_n cx dX3_exchangeRows_71 rfl 5 rfl ?_
  refine v_iald cx dX3_exchangeRows_72 3 rfl h (fun h => ?_)
  refine v_iast (ws' := [(q_t, .inr (3, [.int t_variants, .ref q_t_keys, .ref q_t_sizes, .ref q_t_qualities, .ref q_t_lengths, .ref q_t_ranges, .ref q_t_names, .ref q_t_weights, .ref q_t_ties])), (q_t_ranges, .inl (cy 1, 60, .inr (.inl (vp_updL (vp_updL t_ranges x1.toNatClampNeg (t_ranges x2.toNatClampNeg)) x2.toNatClampNeg (t_ranges x1.toNatClampNeg))))), (q_t_names, .inl (cy 0, 60, .inl (upd (upd t_names x1.toNatClampNeg (t_names x2.toNatClampNeg)) x2.toNatClampNeg (t_names x1.toNatClampNeg)))), (q_t_weights, .inl (cy 0, 60, .inl (upd t_weights x1.toNatClampNeg (t_weights x2.toNatClampNeg))))]) cx dX3_exchangeRows_73 3 rfl h rfl (fun h => ?_)
  refine v_aload_n cx dX3_exchangeRows_74 rfl 3 rfl ?_
  refine g_X3_31 cx dX3_exchangeRows_75 0 rfl rfl ?_
  refine v_iload_n cx dX3_exchangeRows_78 rfl 5 rfl ?_
  refine v_iload cx dX3_exchangeRows_79 0 rfl ?_
  refine v_iast (ws' := [(q_t, .inr (3, [.int t_variants, .ref q_t_keys, .ref q_t_sizes, .ref q_t_qualities, .ref q_t_lengths, .ref q_t_ranges, .ref q_t_names, .ref q_t_weights, .ref q_t_ties])), (q_t_ranges, .inl (cy 1, 60, .inr (.inl (vp_updL (vp_updL t_ranges x1.toNatClampNeg (t_ranges x2.toNatClampNeg)) x2.toNatClampNeg (t_ranges x1.toNatClampNeg))))), (q_t_names, .inl (cy 0, 60, .inl (upd (upd t_names x1.toNatClampNeg (t_names x2.toNatClampNeg)) x2.toNatClampNeg (t_names x1.toNatClampNeg)))), (q_t_weights, .inl (cy 0, 60, .inl (upd (upd t_weights x1.toNatClampNeg (t_weights x2.toNatClampNeg)) x2.toNatClampNeg (t_weights x1.toNatClampNeg))))]) cx dX3_exchangeRows_81 3 rfl h rfl (fun h => ?_)
  exact v_return cx dX3_exchangeRows_82 ⟨_, _, _, rfl, rfl, h⟩
abbrev rm_X3_exchangeLists : Room := { frames := 1, cells := 0, slots := 0, locals := 26 }
set_option maxHeartbeats 4000000 in
set_option maxRecDepth 100000 in
theorem w_X3_exchangeLists_29 {p : Program} {l : Launch} {e : Env} {s : State} {m : MethodId} {args : Array Value} {below : List Frame} {meth : Method} {c : Code} {Q9 : State → Prop} {mn : String} {Ts : List Cond} {D : va_G} {cy : Nat → ClassId} {g : gT} {A : Nat → Prop} (cx : vC p s m args meth c cX3_exchangeLists 5 none RX3 mn Ts D cy g A) (q_t q_t_keys q_t_sizes q_t_qualities q_t_lengths q_t_ranges q_t_names q_t_weights q_t_ties : Nat) {x1 : Int32} {x2 : Int32} {x3 : Int32} {t_variants : Int32} {t_lengths : Nat → Int32} {N : Nat} {K58 : Int32 → (Nat → Int64) → (Nat → Int32) → (Nat → Int32) → Prop} (hK58 : ∀ (x4 : Int32) (t_ranges : Nat → Int64) (t_names : Nat → Int32) (t_weights : Nat → Int32), K58 x4 t_ranges t_names t_weights → vV p l e rm_X3_exchangeLists s m args below meth c Q9 5 D A 0 0 [(q_t, .inr (3, [.int t_variants, .ref q_t_keys, .ref q_t_sizes, .ref q_t_qualities, .ref q_t_lengths, .ref q_t_ranges, .ref q_t_names, .ref q_t_weights, .ref q_t_ties])), (q_t_lengths, .inl (cy 0, 6, .inl t_lengths)), (q_t_ranges, .inl (cy 1, 60, .inr (.inl t_ranges))), (q_t_names, .inl (cy 0, 60, .inl t_names)), (q_t_weights, .inl (cy 0, 60, .inl t_weights))] 58 [(0, .ref q_t), (1, .int x1), (2, .int x2), (3, .int x3), (4, .int x4)] []) : ∀ (n : Nat) (x4 : Int32) (t_ranges : Nat → Int64) (t_names : Nat → Int32) (t_weights : Nat → Int32), p_X3_exchangeLists_29 N x1 x2 x3 t_variants t_lengths K58 n x4 t_ranges t_names t_weights → vV p l e rm_X3_exchangeLists s m args below meth c Q9 5 D A 0 0 [(q_t, .inr (3, [.int t_variants, .ref q_t_keys, .ref q_t_sizes, .ref q_t_qualities, .ref q_t_lengths, .ref q_t_ranges, .ref q_t_names, .ref q_t_weights, .ref q_t_ties])), (q_t_lengths, .inl (cy 0, 6, .inl t_lengths)), (q_t_ranges, .inl (cy 1, 60, .inr (.inl t_ranges))), (q_t_names, .inl (cy 0, 60, .inl t_names)), (q_t_weights, .inl (cy 0, 60, .inl t_weights))] 29 [(0, .ref q_t), (1, .int x1), (2, .int x2), (3, .int x3), (4, .int x4)] [] := by
  intro n
  induction n with
  | zero => intro x4 t_ranges t_names t_weights h; exact False.elim h
  | succ n ih =>
    intro x4 t_ranges t_names t_weights h
    unfold p_X3_exchangeLists_29 at h
    refine v_iload cx dX3_exchangeLists_29 4 rfl ?_
    refine v_bipush (v := 10) cx dX3_exchangeLists_31 (by decide) ?_
    refine v_icmp_ge (tgt := 58) cx dX3_exchangeLists_33 (by decide) h (fun h => ?_) (fun h => ?_)
    · refine v_lv (lv' := [(0, .ref q_t), (1, .int x1), (2, .int x2), (3, .int x3), (4, .int x4)]) [0, 1, 2, 3, 4] rfl ?_
      exact hK58 _ _ _ _ h
    · refine v_aload_n cx dX3_exchangeLists_36 rfl 0 rfl ?_
      refine v_iload_n cx dX3_exchangeLists_37 rfl 1 rfl ?_
      refine v_iload cx dX3_exchangeLists_38 4 rfl ?_
      refine v_callSNpi (As := [.int x1, .int x4]) cx (c_X5_rowOf l g D cy  h) k_X3_60 (by decide) ⟨rfl, rfl⟩ (by decide) rfl rfl (Nat.le_of_ble_eq_true rfl) dX3_exchangeLists_40 [] [0, 1, 2, 3, 4] (by decide) rfl rfl rfl rfl (fun r_1 h => ?_)
      refine v_iload_n cx dX3_exchangeLists_43 rfl 2 rfl ?_
      refine v_iload cx dX3_exchangeLists_44 4 rfl ?_
      refine v_callSNpi (As := [.int x2, .int x4]) cx (c_X5_rowOf l g D cy  h) k_X3_60 (by decide) ⟨rfl, rfl⟩ (by decide) rfl rfl (Nat.le_of_ble_eq_true rfl) dX3_exchangeLists_46 [] [0, 1, 2, 3, 4] (by decide) rfl rfl rfl rfl (fun r_2 h => ?_)
      refine v_callV (As := [.int r_1, .int r_2]) cx (c_X3_exchangeRows l g D cy q_t q_t_keys q_t_sizes q_t_qualities q_t_lengths q_t_ranges q_t_names q_t_weights q_t_ties h) k_X3_67 (by decide) (by decide) rfl rfl (Nat.le_of_ble_eq_true rfl) dX3_exchangeLists_49 [0, 2, 3, 4] [1] (by decide) rfl rfl rfl (q0 := 0) rfl rfl (fun v9 w9 hp => ?_)
      obtain ⟨u_3, u_4, u_5, rfl, rfl, h⟩ := hp
      refine v_after (ws' := [(q_t, .inr (3, [.int t_variants, .ref q_t_keys, .ref q_t_sizes, .ref q_t_qualities, .ref q_t_lengths, .ref q_t_ranges, .ref q_t_names, .ref q_t_weights, .ref q_t_ties])), (q_t_lengths, .inl (cy 0, 6, .inl t_lengths)), (q_t_ranges, .inl (cy 1, 60, .inr (.inl u_3))), (q_t_names, .inl (cy 0, 60, .inl u_4)), (q_t_weights, .inl (cy 0, 60, .inl u_5))]) (st' := []) (ce := 0) (sl := 0) [1, 0, 2, 3, 4] rfl rfl rfl rfl ⟨rfl, rfl⟩ ?_
      refine v_iinc (v := x4 + 1) (k0 := 4) (lv' := [(4, .int (x4 + 1)), (0, .ref q_t), (1, .int x1), (2, .int x2), (3, .int x3)]) cx dX3_exchangeLists_52 rfl rfl (by decide) rfl ?_
      refine v_goto (tgt := 29) cx dX3_exchangeLists_55 (by decide) ?_
      refine v_lv (lv' := [(0, .ref q_t), (1, .int x1), (2, .int x2), (3, .int x3), (4, .int (x4 + 1))]) [1, 2, 3, 4, 0] rfl ?_
      exact ih _ _ _ _ h
set_option maxHeartbeats 4000000 in
set_option maxRecDepth 100000 in
theorem c_X3_exchangeLists (l : Launch) (g : gT) (D : va_G) (cy : Nat → ClassId) (q_t q_t_keys q_t_sizes q_t_qualities q_t_lengths q_t_ranges q_t_names q_t_weights q_t_ties : Nat) {t_variants : Int32} {t_lengths : Nat → Int32} {t_ranges : Nat → Int64} {t_names : Nat → Int32} {t_weights : Nat → Int32} {x1 : Int32} {x2 : Int32} {N : Nat} {Q : (Nat → Int32) → (Nat → Int64) → (Nat → Int32) → (Nat → Int32) → Prop} (h : p_X3_exchangeLists N t_variants t_lengths t_ranges t_names t_weights x1 x2 Q) : UC l yX3_exchangeLists cX3_exchangeLists 5 none rm_X3_exchangeLists g D cy [.ref q_t, .int x1, .int x2] [(q_t, .inr (3, [.int t_variants, .ref q_t_keys, .ref q_t_sizes, .ref q_t_qualities, .ref q_t_lengths, .ref q_t_ranges, .ref q_t_names, .ref q_t_weights, .ref q_t_ties])), (q_t_lengths, .inl (cy 0, 6, .inl t_lengths)), (q_t_ranges, .inl (cy 1, 60, .inr (.inl t_ranges))), (q_t_names, .inl (cy 0, 60, .inl t_names)), (q_t_weights, .inl (cy 0, 60, .inl t_weights))] (fun v w => ∃ (t_lengths' : Nat → Int32) (t_ranges' : Nat → Int64) (t_names' : Nat → Int32) (t_weights' : Nat → Int32), v = none ∧ w = [(q_t, .inr (3, [.int t_variants, .ref q_t_keys, .ref q_t_sizes, .ref q_t_qualities, .ref q_t_lengths, .ref q_t_ranges, .ref q_t_names, .ref q_t_weights, .ref q_t_ties])), (q_t_lengths, .inl (cy 0, 6, .inl t_lengths')), (q_t_ranges, .inl (cy 1, 60, .inr (.inl t_ranges'))), (q_t_names, .inl (cy 0, 60, .inl t_names')), (q_t_weights, .inl (cy 0, 60, .inl t_weights'))] ∧ Q t_lengths' t_ranges' t_names' t_weights') := by
  refine UC_of (by decide +kernel) (Nat.le_of_ble_eq_true rfl) [(0, .ref q_t), (1, .int x1), (2, .int x2)] rfl (fun p e s m args below meth c A cx => ?_)
  unfold p_X3_exchangeLists at h
  refine v_aload_n cx dX3_exchangeLists_0 rfl 0 rfl ?_
  refine g_X3_22 cx dX3_exchangeLists_1 0 rfl rfl ?_
  refine v_iload_n cx dX3_exchangeLists_4 rfl 1 rfl ?_
  refine v_iald cx dX3_exchangeLists_5 1 rfl h (fun h => ?_)
  refine v_istore_n (lv' := [(3, .int (t_lengths x1.toNatClampNeg)), (0, .ref q_t), (1, .int x1), (2, .int x2)]) cx dX3_exchangeLists_6 rfl (by decide) rfl ?_
  refine v_aload_n cx dX3_exchangeLists_7 rfl 1 rfl ?_
  refine g_X3_22 cx dX3_exchangeLists_8 0 rfl rfl ?_
  refine v_iload_n cx dX3_exchangeLists_11 rfl 2 rfl ?_
  refine v_aload_n cx dX3_exchangeLists_12 rfl 1 rfl ?_
  refine g_X3_22 cx dX3_exchangeLists_13 0 rfl rfl ?_
  refine v_iload_n cx dX3_exchangeLists_16 rfl 3 rfl ?_
  refine v_iald cx dX3_exchangeLists_17 1 rfl h (fun h => ?_)
  refine v_iast (ws' := [(q_t, .inr (3, [.int t_variants, .ref q_t_keys, .ref q_t_sizes, .ref q_t_qualities, .ref q_t_lengths, .ref q_t_ranges, .ref q_t_names, .ref q_t_weights, .ref q_t_ties])), (q_t_lengths, .inl (cy 0, 6, .inl (upd t_lengths x1.toNatClampNeg (t_lengths x2.toNatClampNeg)))), (q_t_ranges, .inl (cy 1, 60, .inr (.inl t_ranges))), (q_t_names, .inl (cy 0, 60, .inl t_names)), (q_t_weights, .inl (cy 0, 60, .inl t_weights))]) cx dX3_exchangeLists_18 1 rfl h rfl (fun h => ?_)
  refine v_aload_n cx dX3_exchangeLists_19 rfl 1 rfl ?_
  refine g_X3_22 cx dX3_exchangeLists_20 0 rfl rfl ?_
  refine v_iload_n cx dX3_exchangeLists_23 rfl 3 rfl ?_
  refine v_iload_n cx dX3_exchangeLists_24 rfl 0 rfl ?_
  refine v_iast (ws' := [(q_t, .inr (3, [.int t_variants, .ref q_t_keys, .ref q_t_sizes, .ref q_t_qualities, .ref q_t_lengths, .ref q_t_ranges, .ref q_t_names, .ref q_t_weights, .ref q_t_ties])), (q_t_lengths, .inl (cy 0, 6, .inl (upd (upd t_lengths x1.toNatClampNeg (t_lengths x2.toNatClampNeg)) x2.toNatClampNeg (t_lengths x1.toNatClampNeg)))), (q_t_ranges, .inl (cy 1, 60, .inr (.inl t_ranges))), (q_t_names, .inl (cy 0, 60, .inl t_names)), (q_t_weights, .inl (cy 0, 60, .inl t_weights))]) cx dX3_exchangeLists_25 1 rfl h rfl (fun h => ?_)
  refine v_iconst (v := 0) cx dX3_exchangeLists_26 (by decide) ?_
  refine v_istore (lv' := [(4, .int 0), (3, .int (t_lengths x1.toNatClampNeg)), (0, .ref q_t), (1, .int x1), (2, .int x2)]) cx dX3_exchangeLists_27 (by decide) rfl ?_
  refine v_lv (lv' := [(0, .ref q_t), (1, .int x1), (2, .int x2), (3, .int (t_lengths x1.toNatClampNeg)), (4, .int 0)]) [2, 3, 4, 1, 0] rfl ?_
  refine w_X3_exchangeLists_29 cx q_t q_t_keys q_t_sizes q_t_qualities q_t_lengths q_t_ranges q_t_names q_t_weights q_t_ties ?_ N _ _ _ _ h
  · intro x4_6 t_ranges_7 t_names_8 t_weights_9 h
    exact v_return cx dX3_exchangeLists_58 ⟨_, _, _, _, rfl, rfl, h⟩
abbrev rm_X5_slotOf : Room := { frames := 0, cells := 0, slots := 0, locals := 0 }
set_option maxHeartbeats 4000000 in
set_option maxRecDepth 100000 in
theorem c_X5_slotOf (l : Launch) (g : gT) (D : va_G) (cy : Nat → ClassId) {x0 : Int32} {x1 : Int32} {N : Nat} {Q : Int32 → Prop} (h : p_X5_slotOf N x0 x1 Q) : UC l yX5_slotOf cX5_slotOf 2 (some .int) rm_X5_slotOf g D cy [.int x0, .int x1] [] (fun v w => w = [] ∧ ∃ r : Int32, v = some (.int r) ∧ Q r) := by
  refine UC_of (by decide +kernel) (Nat.le_of_ble_eq_true rfl) [(0, .int x0), (1, .int x1)] rfl (fun p e s m args below meth c A cx => ?_)
  unfold p_X5_slotOf at h
  refine v_iload_n cx dX5_slotOf_0 rfl 0 rfl ?_
  refine v_iconst (v := 3) cx dX5_slotOf_1 (by decide) ?_
  refine v_imul cx dX5_slotOf_2 ?_
  refine v_iload_n cx dX5_slotOf_3 rfl 1 rfl ?_
  refine v_iadd cx dX5_slotOf_4 ?_
  exact v_ireturn cx rfl dX5_slotOf_5 ⟨rfl, _, rfl, h⟩
abbrev rm_X3_entriesOf : Room := { frames := 1, cells := 0, slots := 0, locals := 21 }
set_option maxHeartbeats 4000000 in
set_option maxRecDepth 100000 in
theorem w_X3_entriesOf_4 {p : Program} {l : Launch} {e : Env} {s : State} {m : MethodId} {args : Array Value} {below : List Frame} {meth : Method} {c : Code} {Q9 : State → Prop} {mn : String} {Ts : List Cond} {D : va_G} {cy : Nat → ClassId} {g : gT} {A : Nat → Prop} (cx : vC p s m args meth c cX3_entriesOf 4 (some .int) RX3 mn Ts D cy g A) (q_t q_t_keys q_t_sizes q_t_qualities q_t_lengths q_t_ranges q_t_names q_t_weights q_t_ties : Nat) {x1 : Int32} {t_variants : Int32} {t_lengths : Nat → Int32} {N : Nat} {K28 : Int32 → Int32 → Prop} (hK28 : ∀ (x2 : Int32) (x3 : Int32), K28 x2 x3 → vV p l e rm_X3_entriesOf s m args below meth c Q9 4 D A 0 0 [(q_t, .inr (3, [.int t_variants, .ref q_t_keys, .ref q_t_sizes, .ref q_t_qualities, .ref q_t_lengths, .ref q_t_ranges, .ref q_t_names, .ref q_t_weights, .ref q_t_ties])), (q_t_lengths, .inl (cy 0, 6, .inl t_lengths))] 28 [(0, .ref q_t), (1, .int x1), (2, .int x2), (3, .int x3)] []) : ∀ (n : Nat) (x2 : Int32) (x3 : Int32), p_X3_entriesOf_4 N x1 t_variants t_lengths K28 n x2 x3 → vV p l e rm_X3_entriesOf s m args below meth c Q9 4 D A 0 0 [(q_t, .inr (3, [.int t_variants, .ref q_t_keys, .ref q_t_sizes, .ref q_t_qualities, .ref q_t_lengths, .ref q_t_ranges, .ref q_t_names, .ref q_t_weights, .ref q_t_ties])), (q_t_lengths, .inl (cy 0, 6, .inl t_lengths))] 4 [(0, .ref q_t), (1, .int x1), (2, .int x2), (3, .int x3)] [] := by
  intro n
  induction n with
  | zero => intro x2 x3 h; exact False.elim h
  | succ n ih =>
    intro x2 x3 h
    unfold p_X3_entriesOf_4 at h
    refine v_iload_n cx dX3_entriesOf_4 rfl 3 rfl ?_
    refine v_iconst (v := 3) cx dX3_entriesOf_5 (by decide) ?_
    refine v_icmp_ge (tgt := 28) cx dX3_entriesOf_6 (by decide) h (fun h => ?_) (fun h => ?_)
    · refine v_lv (lv' := [(0, .ref q_t), (1, .int x1), (2, .int x2), (3, .int x3)]) [0, 1, 2, 3] rfl ?_
      exact hK28 _ _ h
    · refine v_iload_n cx dX3_entriesOf_9 rfl 2 rfl ?_
      refine v_aload_n cx dX3_entriesOf_10 rfl 0 rfl ?_
      refine g_X3_22 cx dX3_entriesOf_11 0 rfl rfl ?_
      refine v_iload_n cx dX3_entriesOf_14 rfl 1 rfl ?_
      refine v_iload_n cx dX3_entriesOf_15 rfl 3 rfl ?_
      refine v_callSNpi (As := [.int x1, .int x3]) cx (c_X5_slotOf l g D cy  h) k_X3_71 (by decide) ⟨rfl, rfl⟩ (by decide) rfl rfl (Nat.le_of_ble_eq_true rfl) dX3_entriesOf_16 [] [0, 1] (by decide) rfl rfl rfl rfl (fun r_1 h => ?_)
      refine v_iald cx dX3_entriesOf_19 1 rfl h (fun h => ?_)
      refine v_iadd cx dX3_entriesOf_20 ?_
      refine v_istore_n (lv' := [(2, .int (x2 + (t_lengths r_1.toNatClampNeg))), (0, .ref q_t), (1, .int x1), (3, .int x3)]) cx dX3_entriesOf_21 rfl (by decide) rfl ?_
      refine v_iinc (v := x3 + 1) (k0 := 3) (lv' := [(3, .int (x3 + 1)), (2, .int (x2 + (t_lengths r_1.toNatClampNeg))), (0, .ref q_t), (1, .int x1)]) cx dX3_entriesOf_22 rfl rfl (by decide) rfl ?_
      refine v_goto (tgt := 4) cx dX3_entriesOf_25 (by decide) ?_
      refine v_lv (lv' := [(0, .ref q_t), (1, .int x1), (2, .int (x2 + (t_lengths r_1.toNatClampNeg))), (3, .int (x3 + 1))]) [2, 3, 1, 0] rfl ?_
      exact ih _ _ h
set_option maxHeartbeats 4000000 in
set_option maxRecDepth 100000 in
theorem c_X3_entriesOf (l : Launch) (g : gT) (D : va_G) (cy : Nat → ClassId) (q_t q_t_keys q_t_sizes q_t_qualities q_t_lengths q_t_ranges q_t_names q_t_weights q_t_ties : Nat) {t_variants : Int32} {t_lengths : Nat → Int32} {x1 : Int32} {N : Nat} {Q : Int32 → Prop} (h : p_X3_entriesOf N t_variants t_lengths x1 Q) : UC l yX3_entriesOf cX3_entriesOf 4 (some .int) rm_X3_entriesOf g D cy [.ref q_t, .int x1] [(q_t, .inr (3, [.int t_variants, .ref q_t_keys, .ref q_t_sizes, .ref q_t_qualities, .ref q_t_lengths, .ref q_t_ranges, .ref q_t_names, .ref q_t_weights, .ref q_t_ties])), (q_t_lengths, .inl (cy 0, 6, .inl t_lengths))] (fun v w => w = [(q_t, .inr (3, [.int t_variants, .ref q_t_keys, .ref q_t_sizes, .ref q_t_qualities, .ref q_t_lengths, .ref q_t_ranges, .ref q_t_names, .ref q_t_weights, .ref q_t_ties])), (q_t_lengths, .inl (cy 0, 6, .inl t_lengths))] ∧ ∃ r : Int32, v = some (.int r) ∧ Q r) := by
  refine UC_of (by decide +kernel) (Nat.le_of_ble_eq_true rfl) [(0, .ref q_t), (1, .int x1)] rfl (fun p e s m args below meth c A cx => ?_)
  unfold p_X3_entriesOf at h
  refine v_iconst (v := 0) cx dX3_entriesOf_0 (by decide) ?_
  refine v_istore_n (lv' := [(2, .int 0), (0, .ref q_t), (1, .int x1)]) cx dX3_entriesOf_1 rfl (by decide) rfl ?_
  refine v_iconst (v := 0) cx dX3_entriesOf_2 (by decide) ?_
  refine v_istore_n (lv' := [(3, .int 0), (2, .int 0), (0, .ref q_t), (1, .int x1)]) cx dX3_entriesOf_3 rfl (by decide) rfl ?_
  refine v_lv (lv' := [(0, .ref q_t), (1, .int x1), (2, .int 0), (3, .int 0)]) [2, 3, 1, 0] rfl ?_
  refine w_X3_entriesOf_4 cx q_t q_t_keys q_t_sizes q_t_qualities q_t_lengths q_t_ranges q_t_names q_t_weights q_t_ties ?_ N _ _ h
  · intro x2_2 x3_3 h
    refine v_iload_n cx dX3_entriesOf_28 rfl 2 rfl ?_
    exact v_ireturn cx rfl dX3_entriesOf_29 ⟨rfl, _, rfl, h⟩
abbrev rm_X3_languageNames : Room := { frames := 1, cells := 0, slots := 0, locals := 22 }
set_option maxHeartbeats 4000000 in
set_option maxRecDepth 100000 in
theorem w_X3_languageNames_13 {p : Program} {l : Launch} {e : Env} {s : State} {m : MethodId} {args : Array Value} {below : List Frame} {meth : Method} {c : Code} {Q9 : State → Prop} {mn : String} {Ts : List Cond} {D : va_G} {cy : Nat → ClassId} {g : gT} {A : Nat → Prop} (cx : vC p s m args meth c cX3_languageNames 6 (some .int) RX3 mn Ts D cy g A) (q_t q_t_keys q_t_sizes q_t_qualities q_t_lengths q_t_ranges q_t_names q_t_weights q_t_ties : Nat) {x1 : Int32} {x2 : Int64} {t_variants : Int32} {t_keys : Nat → Int64} {N : Nat} {K48 : Int32 → Int32 → Prop} (hK48 : ∀ (x4 : Int32) (x5 : Int32), K48 x4 x5 → vV p l e rm_X3_languageNames s m args below meth c Q9 6 D A 0 0 [(q_t, .inr (3, [.int t_variants, .ref q_t_keys, .ref q_t_sizes, .ref q_t_qualities, .ref q_t_lengths, .ref q_t_ranges, .ref q_t_names, .ref q_t_weights, .ref q_t_ties])), (q_t_keys, .inl (cy 1, 48, .inr (.inl t_keys)))] 48 [(0, .ref q_t), (1, .int x1), (2, .long x2), (4, .int x4), (5, .int x5)] []) : ∀ (n : Nat) (x4 : Int32) (x5 : Int32), p_X3_languageNames_13 N x1 x2 t_variants t_keys K48 n x4 x5 → vV p l e rm_X3_languageNames s m args below meth c Q9 6 D A 0 0 [(q_t, .inr (3, [.int t_variants, .ref q_t_keys, .ref q_t_sizes, .ref q_t_qualities, .ref q_t_lengths, .ref q_t_ranges, .ref q_t_names, .ref q_t_weights, .ref q_t_ties])), (q_t_keys, .inl (cy 1, 48, .inr (.inl t_keys)))] 13 [(0, .ref q_t), (1, .int x1), (2, .long x2), (4, .int x4), (5, .int x5)] [] := by
  intro n
  induction n with
  | zero => intro x4 x5 h; exact False.elim h
  | succ n ih =>
    intro x4 x5 h
    unfold p_X3_languageNames_13 at h
    refine v_iload cx dX3_languageNames_13 4 rfl ?_
    refine v_getsN cx (by decide +kernel) dX3_languageNames_15 ?_
    refine v_iconst (v := 1) cx dX3_languageNames_18 (by decide) ?_
    refine v_tald cx dX3_languageNames_19 ⟨by unfold vp_in; decide, h⟩ (fun h => ?_)
    refine v_icmp_ge (tgt := 48) cx dX3_languageNames_20 (by decide) h (fun h => ?_) (fun h => ?_)
    · refine v_lv (lv' := [(0, .ref q_t), (1, .int x1), (2, .long x2), (4, .int x4), (5, .int x5)]) [0, 1, 2, 3, 4] rfl ?_
      exact hK48 _ _ h
    · refine v_lload_n cx dX3_languageNames_23 rfl 2 rfl ?_
      refine v_bipush (v := 20) cx dX3_languageNames_24 (by decide) ?_
      refine v_iload cx dX3_languageNames_26 4 rfl ?_
      refine v_imul cx dX3_languageNames_28 ?_
      refine v_lushr cx dX3_languageNames_29 ?_
      refine v_ldc2 cx dX3_languageNames_30 wKL_X3_77 ?_
      refine v_land cx dX3_languageNames_33 ?_
      refine v_lconst (v := 0) cx dX3_languageNames_34 rfl ?_
      refine v_lcmp cx dX3_languageNames_35 ?_
      refine v_if_eq (tgt := 42) cx dX3_languageNames_36 (by decide) h (fun h => ?_) (fun h => ?_)
      · refine v_iinc (v := x5 + 1) (k0 := 4) (lv' := [(5, .int (x5 + 1)), (0, .ref q_t), (1, .int x1), (2, .long x2), (4, .int x4)]) cx dX3_languageNames_42 rfl rfl (by decide) rfl ?_
        refine v_goto (tgt := 13) cx dX3_languageNames_45 (by decide) ?_
        refine v_lv (lv' := [(0, .ref q_t), (1, .int x1), (2, .long x2), (4, .int x4), (5, .int (x5 + 1))]) [1, 2, 3, 4, 0] rfl ?_
        exact ih _ _ h
      · refine v_iinc (v := x4 + 1) (k0 := 3) (lv' := [(4, .int (x4 + 1)), (0, .ref q_t), (1, .int x1), (2, .long x2), (5, .int x5)]) cx dX3_languageNames_39 rfl rfl (by decide) rfl ?_
        refine v_iinc (v := x5 + 1) (k0 := 4) (lv' := [(5, .int (x5 + 1)), (4, .int (x4 + 1)), (0, .ref q_t), (1, .int x1), (2, .long x2)]) cx dX3_languageNames_42 rfl rfl (by decide) rfl ?_
        refine v_goto (tgt := 13) cx dX3_languageNames_45 (by decide) ?_
        refine v_lv (lv' := [(0, .ref q_t), (1, .int x1), (2, .long x2), (4, .int (x4 + 1)), (5, .int (x5 + 1))]) [2, 3, 4, 1, 0] rfl ?_
        exact ih _ _ h
set_option maxHeartbeats 4000000 in
set_option maxRecDepth 100000 in
theorem c_X3_languageNames (l : Launch) (g : gT) (D : va_G) (cy : Nat → ClassId) (q_t q_t_keys q_t_sizes q_t_qualities q_t_lengths q_t_ranges q_t_names q_t_weights q_t_ties : Nat) {t_variants : Int32} {t_keys : Nat → Int64} {x1 : Int32} {N : Nat} {Q : Int32 → Prop} (h : p_X3_languageNames N t_variants t_keys x1 Q) : UC l yX3_languageNames cX3_languageNames 6 (some .int) rm_X3_languageNames g D cy [.ref q_t, .int x1] [(q_t, .inr (3, [.int t_variants, .ref q_t_keys, .ref q_t_sizes, .ref q_t_qualities, .ref q_t_lengths, .ref q_t_ranges, .ref q_t_names, .ref q_t_weights, .ref q_t_ties])), (q_t_keys, .inl (cy 1, 48, .inr (.inl t_keys)))] (fun v w => w = [(q_t, .inr (3, [.int t_variants, .ref q_t_keys, .ref q_t_sizes, .ref q_t_qualities, .ref q_t_lengths, .ref q_t_ranges, .ref q_t_names, .ref q_t_weights, .ref q_t_ties])), (q_t_keys, .inl (cy 1, 48, .inr (.inl t_keys)))] ∧ ∃ r : Int32, v = some (.int r) ∧ Q r) := by
  refine UC_of (by decide +kernel) (Nat.le_of_ble_eq_true rfl) [(0, .ref q_t), (1, .int x1)] rfl (fun p e s m args below meth c A cx => ?_)
  unfold p_X3_languageNames at h
  refine v_aload_n cx dX3_languageNames_0 rfl 0 rfl ?_
  refine v_iload_n cx dX3_languageNames_1 rfl 1 rfl ?_
  refine v_iconst (v := 1) cx dX3_languageNames_2 (by decide) ?_
  refine v_callVpl (As := [.int x1, .int 1]) cx (c_X3_keyOf l g D cy q_t q_t_keys q_t_sizes q_t_qualities q_t_lengths q_t_ranges q_t_names q_t_weights q_t_ties h) k_X3_47 (by decide) ⟨rfl, rfl⟩ (by decide) rfl rfl (Nat.le_of_ble_eq_true rfl) dX3_languageNames_3 [0, 1] [] (by decide) rfl rfl rfl rfl (q0 := 0) rfl rfl (fun r_1 h => ?_)
  refine v_lstore_n (lv' := [(2, .long r_1), (0, .ref q_t), (1, .int x1)]) cx dX3_languageNames_6 rfl (by decide) rfl ?_
  refine v_iconst (v := 0) cx dX3_languageNames_7 (by decide) ?_
  refine v_istore (lv' := [(4, .int 0), (2, .long r_1), (0, .ref q_t), (1, .int x1)]) cx dX3_languageNames_8 (by decide) rfl ?_
  refine v_iconst (v := 0) cx dX3_languageNames_10 (by decide) ?_
  refine v_istore (lv' := [(5, .int 0), (4, .int 0), (2, .long r_1), (0, .ref q_t), (1, .int x1)]) cx dX3_languageNames_11 (by decide) rfl ?_
  refine v_lv (lv' := [(0, .ref q_t), (1, .int x1), (2, .long r_1), (4, .int 0), (5, .int 0)]) [3, 4, 2, 1, 0] rfl ?_
  refine w_X3_languageNames_13 cx q_t q_t_keys q_t_sizes q_t_qualities q_t_lengths q_t_ranges q_t_names q_t_weights q_t_ties ?_ N _ _ h
  · intro x4_2 x5_3 h
    refine v_iload cx dX3_languageNames_48 3 rfl ?_
    exact v_ireturn cx rfl dX3_languageNames_50 ⟨rfl, _, rfl, h⟩
abbrev rm_X3_matches : Room := { frames := 1, cells := 0, slots := 0, locals := 22 }
set_option maxHeartbeats 4000000 in
set_option maxRecDepth 100000 in
theorem c_X3_matches (l : Launch) (g : gT) (D : va_G) (cy : Nat → ClassId) (q_t q_t_keys q_t_sizes q_t_qualities q_t_lengths q_t_ranges q_t_names q_t_weights q_t_ties : Nat) {t_variants : Int32} {t_names : Nat → Int32} {t_keys : Nat → Int64} {t_ranges : Nat → Int64} {x1 : Int32} {x2 : Int32} {x3 : Int32} {N : Nat} {Q : Int32 → Prop} (h : p_X3_matches N t_variants t_names t_keys t_ranges x1 x2 x3 Q) : UC l yX3_matches cX3_matches 7 (some .boolean) rm_X3_matches g D cy [.ref q_t, .int x1, .int x2, .int x3] [(q_t, .inr (3, [.int t_variants, .ref q_t_keys, .ref q_t_sizes, .ref q_t_qualities, .ref q_t_lengths, .ref q_t_ranges, .ref q_t_names, .ref q_t_weights, .ref q_t_ties])), (q_t_names, .inl (cy 0, 60, .inl t_names)), (q_t_keys, .inl (cy 1, 48, .inr (.inl t_keys))), (q_t_ranges, .inl (cy 1, 60, .inr (.inl t_ranges)))] (fun v w => w = [(q_t, .inr (3, [.int t_variants, .ref q_t_keys, .ref q_t_sizes, .ref q_t_qualities, .ref q_t_lengths, .ref q_t_ranges, .ref q_t_names, .ref q_t_weights, .ref q_t_ties])), (q_t_names, .inl (cy 0, 60, .inl t_names)), (q_t_keys, .inl (cy 1, 48, .inr (.inl t_keys))), (q_t_ranges, .inl (cy 1, 60, .inr (.inl t_ranges)))] ∧ ∃ r : Int32, v = some (.int r) ∧ Q r) := by
  refine UC_of (by decide +kernel) (Nat.le_of_ble_eq_true rfl) [(0, .ref q_t), (1, .int x1), (2, .int x2), (3, .int x3)] rfl (fun p e s m args below meth c A cx => ?_)
  unfold p_X3_matches at h
  refine v_iload_n cx dX3_matches_0 rfl 1 rfl ?_
  refine v_iconst (v := 3) cx dX3_matches_1 (by decide) ?_
  refine v_irem cx dX3_matches_2 (by decide) ?_
  refine v_istore (lv' := [(4, .int (x1 - x1 / 3 * 3)), (0, .ref q_t), (1, .int x1), (2, .int x2), (3, .int x3)]) cx dX3_matches_3 (by decide) rfl ?_
  refine v_iload_n cx dX3_matches_5 rfl 2 rfl ?_
  refine v_iload_n cx dX3_matches_6 rfl 3 rfl ?_
  refine v_callSNpi (As := [.int x1, .int x2]) cx (c_X5_rowOf l g D cy  h) k_X3_60 (by decide) ⟨rfl, rfl⟩ (by decide) rfl rfl (Nat.le_of_ble_eq_true rfl) dX3_matches_7 [] [0, 1, 2, 3] (by decide) rfl rfl rfl rfl (fun r_1 h => ?_)
  refine v_istore (lv' := [(5, .int r_1), (4, .int (x1 - x1 / 3 * 3)), (0, .ref q_t), (1, .int x1), (2, .int x2), (3, .int x3)]) cx dX3_matches_10 (by decide) rfl ?_
  refine v_getsN cx (by decide +kernel) dX3_matches_12 ?_
  refine v_iload cx dX3_matches_15 1 rfl ?_
  refine v_tald cx dX3_matches_17 h (fun h => ?_)
  refine v_aload_n cx dX3_matches_18 rfl 2 rfl ?_
  refine g_X3_28 cx dX3_matches_19 0 rfl rfl ?_
  refine v_iload cx dX3_matches_22 0 rfl ?_
  refine v_iald cx dX3_matches_24 1 rfl h (fun h => ?_)
  refine v_isub cx dX3_matches_25 ?_
  refine v_istore (lv' := [(6, .int ((gmi (x1 - x1 / 3 * 3).toNatClampNeg) - (t_names r_1.toNatClampNeg))), (5, .int r_1), (4, .int (x1 - x1 / 3 * 3)), (0, .ref q_t), (1, .int x1), (2, .int x2), (3, .int x3)]) cx dX3_matches_26 (by decide) rfl ?_
  refine v_aload_n cx dX3_matches_28 rfl 3 rfl ?_
  refine v_iload_n cx dX3_matches_29 rfl 6 rfl ?_
  refine v_iload cx dX3_matches_30 2 rfl ?_
  refine v_callVpl (As := [.int x3, .int (x1 - x1 / 3 * 3)]) cx (c_X3_keyOf l g D cy q_t q_t_keys q_t_sizes q_t_qualities q_t_lengths q_t_ranges q_t_names q_t_weights q_t_ties h) k_X3_47 (by decide) ⟨rfl, rfl⟩ (by decide) rfl rfl (Nat.le_of_ble_eq_true rfl) dX3_matches_32 [0, 2] [1, 3] (by decide) rfl rfl rfl rfl (q0 := 0) rfl rfl (fun r_2 h => ?_)
  refine v_aload_n cx dX3_matches_35 rfl 3 rfl ?_
  refine g_X3_25 cx dX3_matches_36 0 rfl rfl ?_
  refine v_iload cx dX3_matches_39 1 rfl ?_
  refine v_lald cx dX3_matches_41 3 rfl h (fun h => ?_)
  refine v_lxor cx dX3_matches_42 ?_
  refine v_bipush (v := 20) cx dX3_matches_43 (by decide) ?_
  refine v_iload cx dX3_matches_45 0 rfl ?_
  refine v_imul cx dX3_matches_47 ?_
  refine v_lushr cx dX3_matches_48 ?_
  refine v_lconst (v := 0) cx dX3_matches_49 rfl ?_
  refine v_lcmp cx dX3_matches_50 ?_
  refine v_if_ne (tgt := 58) cx dX3_matches_51 (by decide) h (fun h => ?_) (fun h => ?_)
  · refine v_iconst (v := 0) cx dX3_matches_58 (by decide) ?_
    exact v_ireturn cx rfl dX3_matches_59 ⟨rfl, _, rfl, h⟩
  · refine v_iconst (v := 1) cx dX3_matches_54 (by decide) ?_
    refine v_goto (tgt := 59) cx dX3_matches_55 (by decide) ?_
    exact v_ireturn cx rfl dX3_matches_59 ⟨rfl, _, rfl, h⟩
abbrev rm_X3_matchCount : Room := { frames := 2, cells := 0, slots := 0, locals := 48 }
set_option maxHeartbeats 4000000 in
set_option maxRecDepth 100000 in
theorem w_X3_matchCount_5 {p : Program} {l : Launch} {e : Env} {s : State} {m : MethodId} {args : Array Value} {below : List Frame} {meth : Method} {c : Code} {Q9 : State → Prop} {mn : String} {Ts : List Cond} {D : va_G} {cy : Nat → ClassId} {g : gT} {A : Nat → Prop} (cx : vC p s m args meth c cX3_matchCount 5 (some .int) RX3 mn Ts D cy g A) (q_t q_t_keys q_t_sizes q_t_qualities q_t_lengths q_t_ranges q_t_names q_t_weights q_t_ties : Nat) {x1 : Int32} {x2 : Int32} {t_variants : Int32} {t_names : Nat → Int32} {t_keys : Nat → Int64} {t_ranges : Nat → Int64} {N : Nat} {K34 : Int32 → Int32 → Prop} (hK34 : ∀ (x3 : Int32) (x4 : Int32), K34 x3 x4 → vV p l e rm_X3_matchCount s m args below meth c Q9 5 D A 0 0 [(q_t, .inr (3, [.int t_variants, .ref q_t_keys, .ref q_t_sizes, .ref q_t_qualities, .ref q_t_lengths, .ref q_t_ranges, .ref q_t_names, .ref q_t_weights, .ref q_t_ties])), (q_t_names, .inl (cy 0, 60, .inl t_names)), (q_t_keys, .inl (cy 1, 48, .inr (.inl t_keys))), (q_t_ranges, .inl (cy 1, 60, .inr (.inl t_ranges)))] 34 [(0, .ref q_t), (1, .int x1), (2, .int x2), (3, .int x3), (4, .int x4)] []) : ∀ (n : Nat) (x3 : Int32) (x4 : Int32), p_X3_matchCount_5 N x1 x2 t_variants t_names t_keys t_ranges K34 n x3 x4 → vV p l e rm_X3_matchCount s m args below meth c Q9 5 D A 0 0 [(q_t, .inr (3, [.int t_variants, .ref q_t_keys, .ref q_t_sizes, .ref q_t_qualities, .ref q_t_lengths, .ref q_t_ranges, .ref q_t_names, .ref q_t_weights, .ref q_t_ties])), (q_t_names, .inl (cy 0, 60, .inl t_names)), (q_t_keys, .inl (cy 1, 48, .inr (.inl t_keys))), (q_t_ranges, .inl (cy 1, 60, .inr (.inl t_ranges)))] 5 [(0, .ref q_t), (1, .int x1), (2, .int x2), (3, .int x3), (4, .int x4)] [] := by
  intro n
  induction n with
  | zero => intro x3 x4 h; exact False.elim h
  | succ n ih =>
    intro x3 x4 h
    unfold p_X3_matchCount_5 at h
    refine v_iload cx dX3_matchCount_5 4 rfl ?_
    refine v_aload_n cx dX3_matchCount_7 rfl 0 rfl ?_
    refine g_X3_37 cx dX3_matchCount_8 0 rfl rfl ?_
    refine v_icmp_ge (tgt := 34) cx dX3_matchCount_11 (by decide) h (fun h => ?_) (fun h => ?_)
    · refine v_lv (lv' := [(0, .ref q_t), (1, .int x1), (2, .int x2), (3, .int x3), (4, .int x4)]) [0, 1, 2, 3, 4] rfl ?_
      exact hK34 _ _ h
    · refine v_aload_n cx dX3_matchCount_14 rfl 0 rfl ?_
      refine v_iload_n cx dX3_matchCount_15 rfl 1 rfl ?_
      refine v_iload_n cx dX3_matchCount_16 rfl 2 rfl ?_
      refine v_iload cx dX3_matchCount_17 4 rfl ?_
      refine v_callVpi (As := [.int x1, .int x2, .int x4]) cx (c_X3_matches l g D cy q_t q_t_keys q_t_sizes q_t_qualities q_t_lengths q_t_ranges q_t_names q_t_weights q_t_ties h) k_X3_79 (by decide) ⟨rfl, rfl⟩ (by decide) rfl rfl (Nat.le_of_ble_eq_true rfl) dX3_matchCount_19 [0, 1, 2, 3] [] (by decide) rfl rfl rfl rfl (q0 := 0) rfl rfl (fun r_1 h => ?_)
      refine v_if_eq (tgt := 28) cx dX3_matchCount_22 (by decide) h (fun h => ?_) (fun h => ?_)
      · refine v_iinc (v := x4 + 1) (k0 := 4) (lv' := [(4, .int (x4 + 1)), (0, .ref q_t), (1, .int x1), (2, .int x2), (3, .int x3)]) cx dX3_matchCount_28 rfl rfl (by decide) rfl ?_
        refine v_goto (tgt := 5) cx dX3_matchCount_31 (by decide) ?_
        refine v_lv (lv' := [(0, .ref q_t), (1, .int x1), (2, .int x2), (3, .int x3), (4, .int (x4 + 1))]) [1, 2, 3, 4, 0] rfl ?_
        exact ih _ _ h
      · refine v_iinc (v := x3 + 1) (k0 := 3) (lv' := [(3, .int (x3 + 1)), (0, .ref q_t), (1, .int x1), (2, .int x2), (4, .int x4)]) cx dX3_matchCount_25 rfl rfl (by decide) rfl ?_
        refine v_iinc (v := x4 + 1) (k0 := 4) (lv' := [(4, .int (x4 + 1)), (3, .int (x3 + 1)), (0, .ref q_t), (1, .int x1), (2, .int x2)]) cx dX3_matchCount_28 rfl rfl (by decide) rfl ?_
        refine v_goto (tgt := 5) cx dX3_matchCount_31 (by decide) ?_
        refine v_lv (lv' := [(0, .ref q_t), (1, .int x1), (2, .int x2), (3, .int (x3 + 1)), (4, .int (x4 + 1))]) [2, 3, 4, 1, 0] rfl ?_
        exact ih _ _ h
set_option maxHeartbeats 4000000 in
set_option maxRecDepth 100000 in
theorem c_X3_matchCount (l : Launch) (g : gT) (D : va_G) (cy : Nat → ClassId) (q_t q_t_keys q_t_sizes q_t_qualities q_t_lengths q_t_ranges q_t_names q_t_weights q_t_ties : Nat) {t_variants : Int32} {t_names : Nat → Int32} {t_keys : Nat → Int64} {t_ranges : Nat → Int64} {x1 : Int32} {x2 : Int32} {N : Nat} {Q : Int32 → Prop} (h : p_X3_matchCount N t_variants t_names t_keys t_ranges x1 x2 Q) : UC l yX3_matchCount cX3_matchCount 5 (some .int) rm_X3_matchCount g D cy [.ref q_t, .int x1, .int x2] [(q_t, .inr (3, [.int t_variants, .ref q_t_keys, .ref q_t_sizes, .ref q_t_qualities, .ref q_t_lengths, .ref q_t_ranges, .ref q_t_names, .ref q_t_weights, .ref q_t_ties])), (q_t_names, .inl (cy 0, 60, .inl t_names)), (q_t_keys, .inl (cy 1, 48, .inr (.inl t_keys))), (q_t_ranges, .inl (cy 1, 60, .inr (.inl t_ranges)))] (fun v w => w = [(q_t, .inr (3, [.int t_variants, .ref q_t_keys, .ref q_t_sizes, .ref q_t_qualities, .ref q_t_lengths, .ref q_t_ranges, .ref q_t_names, .ref q_t_weights, .ref q_t_ties])), (q_t_names, .inl (cy 0, 60, .inl t_names)), (q_t_keys, .inl (cy 1, 48, .inr (.inl t_keys))), (q_t_ranges, .inl (cy 1, 60, .inr (.inl t_ranges)))] ∧ ∃ r : Int32, v = some (.int r) ∧ Q r) := by
  refine UC_of (by decide +kernel) (Nat.le_of_ble_eq_true rfl) [(0, .ref q_t), (1, .int x1), (2, .int x2)] rfl (fun p e s m args below meth c A cx => ?_)
  unfold p_X3_matchCount at h
  refine v_iconst (v := 0) cx dX3_matchCount_0 (by decide) ?_
  refine v_istore_n (lv' := [(3, .int 0), (0, .ref q_t), (1, .int x1), (2, .int x2)]) cx dX3_matchCount_1 rfl (by decide) rfl ?_
  refine v_iconst (v := 0) cx dX3_matchCount_2 (by decide) ?_
  refine v_istore (lv' := [(4, .int 0), (3, .int 0), (0, .ref q_t), (1, .int x1), (2, .int x2)]) cx dX3_matchCount_3 (by decide) rfl ?_
  refine v_lv (lv' := [(0, .ref q_t), (1, .int x1), (2, .int x2), (3, .int 0), (4, .int 0)]) [2, 3, 4, 1, 0] rfl ?_
  refine w_X3_matchCount_5 cx q_t q_t_keys q_t_sizes q_t_qualities q_t_lengths q_t_ranges q_t_names q_t_weights q_t_ties ?_ N _ _ h
  · intro x3_2 x4_3 h
    refine v_iload_n cx dX3_matchCount_34 rfl 3 rfl ?_
    exact v_ireturn cx rfl dX3_matchCount_35 ⟨rfl, _, rfl, h⟩
abbrev rm_X3_placeThatCounts : Room := { frames := 2, cells := 0, slots := 0, locals := 48 }
set_option maxHeartbeats 4000000 in
set_option maxRecDepth 100000 in
theorem w_X3_placeThatCounts_8 {p : Program} {l : Launch} {e : Env} {s : State} {m : MethodId} {args : Array Value} {below : List Frame} {meth : Method} {c : Code} {Q9 : State → Prop} {mn : String} {Ts : List Cond} {D : va_G} {cy : Nat → ClassId} {g : gT} {A : Nat → Prop} (cx : vC p s m args meth c cX3_placeThatCounts 7 (some .int) RX3 mn Ts D cy g A) (q_t q_t_keys q_t_sizes q_t_qualities q_t_lengths q_t_ranges q_t_names q_t_weights q_t_ties : Nat) {x1 : Int32} {x2 : Int32} {t_variants : Int32} {t_lengths : Nat → Int32} {t_names : Nat → Int32} {t_keys : Nat → Int64} {t_ranges : Nat → Int64} {N : Nat} {K63 : Int32 → Int32 → Int32 → Prop} (hK63 : ∀ (x3 : Int32) (x4 : Int32) (x5 : Int32), K63 x3 x4 x5 → vV p l e rm_X3_placeThatCounts s m args below meth c Q9 7 D A 0 0 [(q_t, .inr (3, [.int t_variants, .ref q_t_keys, .ref q_t_sizes, .ref q_t_qualities, .ref q_t_lengths, .ref q_t_ranges, .ref q_t_names, .ref q_t_weights, .ref q_t_ties])), (q_t_lengths, .inl (cy 0, 6, .inl t_lengths)), (q_t_names, .inl (cy 0, 60, .inl t_names)), (q_t_keys, .inl (cy 1, 48, .inr (.inl t_keys))), (q_t_ranges, .inl (cy 1, 60, .inr (.inl t_ranges)))] 63 [(0, .ref q_t), (1, .int x1), (2, .int x2), (3, .int x3), (4, .int x4), (5, .int x5)] []) : ∀ (n : Nat) (x3 : Int32) (x4 : Int32) (x5 : Int32), p_X3_placeThatCounts_8 N x1 x2 t_variants t_lengths t_names t_keys t_ranges K63 n x3 x4 x5 → vV p l e rm_X3_placeThatCounts s m args below meth c Q9 7 D A 0 0 [(q_t, .inr (3, [.int t_variants, .ref q_t_keys, .ref q_t_sizes, .ref q_t_qualities, .ref q_t_lengths, .ref q_t_ranges, .ref q_t_names, .ref q_t_weights, .ref q_t_ties])), (q_t_lengths, .inl (cy 0, 6, .inl t_lengths)), (q_t_names, .inl (cy 0, 60, .inl t_names)), (q_t_keys, .inl (cy 1, 48, .inr (.inl t_keys))), (q_t_ranges, .inl (cy 1, 60, .inr (.inl t_ranges)))] 8 [(0, .ref q_t), (1, .int x1), (2, .int x2), (3, .int x3), (4, .int x4), (5, .int x5)] [] := by
  intro n
  induction n with
  | zero => intro x3 x4 x5 h; exact False.elim h
  | succ n ih =>
    intro x3 x4 x5 h
    unfold p_X3_placeThatCounts_8 at h
    refine v_iload cx dX3_placeThatCounts_8 5 rfl ?_
    refine v_aload_n cx dX3_placeThatCounts_10 rfl 0 rfl ?_
    refine g_X3_22 cx dX3_placeThatCounts_11 0 rfl rfl ?_
    refine v_iload_n cx dX3_placeThatCounts_14 rfl 1 rfl ?_
    refine v_iald cx dX3_placeThatCounts_15 1 rfl h (fun h => ?_)
    refine v_icmp_ge (tgt := 63) cx dX3_placeThatCounts_16 (by decide) h (fun h => ?_) (fun h => ?_)
    · refine v_lv (lv' := [(0, .ref q_t), (1, .int x1), (2, .int x2), (3, .int x3), (4, .int x4), (5, .int x5)]) [0, 1, 2, 3, 4, 5] rfl ?_
      exact hK63 _ _ _ h
    · refine v_aload_n cx dX3_placeThatCounts_19 rfl 0 rfl ?_
      refine g_X3_28 cx dX3_placeThatCounts_20 0 rfl rfl ?_
      refine v_iload_n cx dX3_placeThatCounts_23 rfl 1 rfl ?_
      refine v_iload cx dX3_placeThatCounts_24 5 rfl ?_
      refine v_callSNpi (As := [.int x1, .int x5]) cx (c_X5_rowOf l g D cy  h) k_X3_60 (by decide) ⟨rfl, rfl⟩ (by decide) rfl rfl (Nat.le_of_ble_eq_true rfl) dX3_placeThatCounts_26 [] [0, 1, 2, 3, 4] (by decide) rfl rfl rfl rfl (fun r_1 h => ?_)
      refine v_iald cx dX3_placeThatCounts_29 2 rfl h (fun h => ?_)
      refine v_istore (lv' := [(6, .int (t_names r_1.toNatClampNeg)), (0, .ref q_t), (1, .int x1), (2, .int x2), (3, .int x3), (4, .int x4), (5, .int x5)]) cx dX3_placeThatCounts_30 (by decide) rfl ?_
      refine v_iload cx dX3_placeThatCounts_32 0 rfl ?_
      refine v_iload cx dX3_placeThatCounts_34 5 rfl ?_
      refine v_icmp_le (tgt := 57) cx dX3_placeThatCounts_36 (by decide) h (fun h => ?_) (fun h => ?_)
      · refine v_iinc (v := x5 + 1) (k0 := 6) (lv' := [(5, .int (x5 + 1)), (6, .int (t_names r_1.toNatClampNeg)), (0, .ref q_t), (1, .int x1), (2, .int x2), (3, .int x3), (4, .int x4)]) cx dX3_placeThatCounts_57 rfl rfl (by decide) rfl ?_
        refine v_goto (tgt := 8) cx dX3_placeThatCounts_60 (by decide) ?_
        refine v_lv (lv' := [(0, .ref q_t), (1, .int x1), (2, .int x2), (3, .int x3), (4, .int x4), (5, .int (x5 + 1))]) [2, 3, 4, 5, 6, 0] rfl ?_
        exact ih _ _ _ h
      · refine v_aload_n cx dX3_placeThatCounts_39 rfl 1 rfl ?_
        refine v_iload_n cx dX3_placeThatCounts_40 rfl 2 rfl ?_
        refine v_iload cx dX3_placeThatCounts_41 6 rfl ?_
        refine v_iload_n cx dX3_placeThatCounts_43 rfl 3 rfl ?_
        refine v_callVpi (As := [.int x1, .int x5, .int x2]) cx (c_X3_matches l g D cy q_t q_t_keys q_t_sizes q_t_qualities q_t_lengths q_t_ranges q_t_names q_t_weights q_t_ties h) k_X3_79 (by decide) ⟨rfl, rfl⟩ (by decide) rfl rfl (Nat.le_of_ble_eq_true rfl) dX3_placeThatCounts_44 [0, 2, 3, 4] [1] (by decide) rfl rfl rfl rfl (q0 := 0) rfl rfl (fun r_2 h => ?_)
        refine v_if_eq (tgt := 57) cx dX3_placeThatCounts_47 (by decide) h (fun h => ?_) (fun h => ?_)
        · refine v_iinc (v := x5 + 1) (k0 := 6) (lv' := [(5, .int (x5 + 1)), (6, .int (t_names r_1.toNatClampNeg)), (0, .ref q_t), (1, .int x1), (2, .int x2), (3, .int x3), (4, .int x4)]) cx dX3_placeThatCounts_57 rfl rfl (by decide) rfl ?_
          refine v_goto (tgt := 8) cx dX3_placeThatCounts_60 (by decide) ?_
          refine v_lv (lv' := [(0, .ref q_t), (1, .int x1), (2, .int x2), (3, .int x3), (4, .int x4), (5, .int (x5 + 1))]) [2, 3, 4, 5, 6, 0] rfl ?_
          exact ih _ _ _ h
        · refine v_iload cx dX3_placeThatCounts_50 6 rfl ?_
          refine v_istore_n (lv' := [(3, .int x5), (6, .int (t_names r_1.toNatClampNeg)), (0, .ref q_t), (1, .int x1), (2, .int x2), (4, .int x4), (5, .int x5)]) cx dX3_placeThatCounts_52 rfl (by decide) rfl ?_
          refine v_iload cx dX3_placeThatCounts_53 1 rfl ?_
          refine v_istore (lv' := [(4, .int (t_names r_1.toNatClampNeg)), (3, .int x5), (6, .int (t_names r_1.toNatClampNeg)), (0, .ref q_t), (1, .int x1), (2, .int x2), (5, .int x5)]) cx dX3_placeThatCounts_55 (by decide) rfl ?_
          refine v_iinc (v := x5 + 1) (k0 := 6) (lv' := [(5, .int (x5 + 1)), (4, .int (t_names r_1.toNatClampNeg)), (3, .int x5), (6, .int (t_names r_1.toNatClampNeg)), (0, .ref q_t), (1, .int x1), (2, .int x2)]) cx dX3_placeThatCounts_57 rfl rfl (by decide) rfl ?_
          refine v_goto (tgt := 8) cx dX3_placeThatCounts_60 (by decide) ?_
          refine v_lv (lv' := [(0, .ref q_t), (1, .int x1), (2, .int x2), (3, .int x5), (4, .int (t_names r_1.toNatClampNeg)), (5, .int (x5 + 1))]) [4, 5, 6, 2, 1, 0] rfl ?_
          exact ih _ _ _ h
set_option maxHeartbeats 4000000 in
set_option maxRecDepth 100000 in
theorem c_X3_placeThatCounts (l : Launch) (g : gT) (D : va_G) (cy : Nat → ClassId) (q_t q_t_keys q_t_sizes q_t_qualities q_t_lengths q_t_ranges q_t_names q_t_weights q_t_ties : Nat) {t_variants : Int32} {t_lengths : Nat → Int32} {t_names : Nat → Int32} {t_keys : Nat → Int64} {t_ranges : Nat → Int64} {x1 : Int32} {x2 : Int32} {N : Nat} {Q : Int32 → Prop} (h : p_X3_placeThatCounts N t_variants t_lengths t_names t_keys t_ranges x1 x2 Q) : UC l yX3_placeThatCounts cX3_placeThatCounts 7 (some .int) rm_X3_placeThatCounts g D cy [.ref q_t, .int x1, .int x2] [(q_t, .inr (3, [.int t_variants, .ref q_t_keys, .ref q_t_sizes, .ref q_t_qualities, .ref q_t_lengths, .ref q_t_ranges, .ref q_t_names, .ref q_t_weights, .ref q_t_ties])), (q_t_lengths, .inl (cy 0, 6, .inl t_lengths)), (q_t_names, .inl (cy 0, 60, .inl t_names)), (q_t_keys, .inl (cy 1, 48, .inr (.inl t_keys))), (q_t_ranges, .inl (cy 1, 60, .inr (.inl t_ranges)))] (fun v w => w = [(q_t, .inr (3, [.int t_variants, .ref q_t_keys, .ref q_t_sizes, .ref q_t_qualities, .ref q_t_lengths, .ref q_t_ranges, .ref q_t_names, .ref q_t_weights, .ref q_t_ties])), (q_t_lengths, .inl (cy 0, 6, .inl t_lengths)), (q_t_names, .inl (cy 0, 60, .inl t_names)), (q_t_keys, .inl (cy 1, 48, .inr (.inl t_keys))), (q_t_ranges, .inl (cy 1, 60, .inr (.inl t_ranges)))] ∧ ∃ r : Int32, v = some (.int r) ∧ Q r) := by
  refine UC_of (by decide +kernel) (Nat.le_of_ble_eq_true rfl) [(0, .ref q_t), (1, .int x1), (2, .int x2)] rfl (fun p e s m args below meth c A cx => ?_)
  unfold p_X3_placeThatCounts at h
  refine v_iconst (v := (-1)) cx dX3_placeThatCounts_0 (by decide) ?_
  refine v_istore_n (lv' := [(3, .int (-1)), (0, .ref q_t), (1, .int x1), (2, .int x2)]) cx dX3_placeThatCounts_1 rfl (by decide) rfl ?_
  refine v_iconst (v := (-1)) cx dX3_placeThatCounts_2 (by decide) ?_
  refine v_istore (lv' := [(4, .int (-1)), (3, .int (-1)), (0, .ref q_t), (1, .int x1), (2, .int x2)]) cx dX3_placeThatCounts_3 (by decide) rfl ?_
  refine v_iconst (v := 0) cx dX3_placeThatCounts_5 (by decide) ?_
  refine v_istore (lv' := [(5, .int 0), (4, .int (-1)), (3, .int (-1)), (0, .ref q_t), (1, .int x1), (2, .int x2)]) cx dX3_placeThatCounts_6 (by decide) rfl ?_
  refine v_lv (lv' := [(0, .ref q_t), (1, .int x1), (2, .int x2), (3, .int (-1)), (4, .int (-1)), (5, .int 0)]) [3, 4, 5, 2, 1, 0] rfl ?_
  refine w_X3_placeThatCounts_8 cx q_t q_t_keys q_t_sizes q_t_qualities q_t_lengths q_t_ranges q_t_names q_t_weights q_t_ties ?_ N _ _ _ h
  · intro x3_3 x4_4 x5_5 h
    refine v_iload_n cx dX3_placeThatCounts_63 rfl 3 rfl ?_
    exact v_ireturn cx rfl dX3_placeThatCounts_64 ⟨rfl, _, rfl, h⟩
abbrev rm_X3_weightAt : Room := { frames := 1, cells := 0, slots := 0, locals := 22 }
set_option maxHeartbeats 4000000 in
set_option maxRecDepth 100000 in
theorem c_X3_weightAt (l : Launch) (g : gT) (D : va_G) (cy : Nat → ClassId) (q_t q_t_keys q_t_sizes q_t_qualities q_t_lengths q_t_ranges q_t_names q_t_weights q_t_ties : Nat) {t_variants : Int32} {t_lengths : Nat → Int32} {t_keys : Nat → Int64} {t_weights : Nat → Int32} {x1 : Int32} {x2 : Int32} {x3 : Int32} {N : Nat} {Q : Int32 → Prop} (h : p_X3_weightAt N t_variants t_lengths t_keys t_weights x1 x2 x3 Q) : UC l yX3_weightAt cX3_weightAt 4 (some .int) rm_X3_weightAt g D cy [.ref q_t, .int x1, .int x2, .int x3] [(q_t, .inr (3, [.int t_variants, .ref q_t_keys, .ref q_t_sizes, .ref q_t_qualities, .ref q_t_lengths, .ref q_t_ranges, .ref q_t_names, .ref q_t_weights, .ref q_t_ties])), (q_t_lengths, .inl (cy 0, 6, .inl t_lengths)), (q_t_keys, .inl (cy 1, 48, .inr (.inl t_keys))), (q_t_weights, .inl (cy 0, 60, .inl t_weights))] (fun v w => w = [(q_t, .inr (3, [.int t_variants, .ref q_t_keys, .ref q_t_sizes, .ref q_t_qualities, .ref q_t_lengths, .ref q_t_ranges, .ref q_t_names, .ref q_t_weights, .ref q_t_ties])), (q_t_lengths, .inl (cy 0, 6, .inl t_lengths)), (q_t_keys, .inl (cy 1, 48, .inr (.inl t_keys))), (q_t_weights, .inl (cy 0, 60, .inl t_weights))] ∧ ∃ r : Int32, v = some (.int r) ∧ Q r) := by
  refine UC_of (by decide +kernel) (Nat.le_of_ble_eq_true rfl) [(0, .ref q_t), (1, .int x1), (2, .int x2), (3, .int x3)] rfl (fun p e s m args below meth c A cx => ?_)
  unfold p_X3_weightAt at h
  refine v_iload_n cx dX3_weightAt_0 rfl 2 rfl ?_
  refine v_iconst (v := (-1)) cx dX3_weightAt_1 (by decide) ?_
  refine v_icmp_eq (tgt := 16) cx dX3_weightAt_2 (by decide) h (fun h => ?_) (fun h => ?_)
  · refine v_aload_n cx dX3_weightAt_16 rfl 0 rfl ?_
    refine g_X3_22 cx dX3_weightAt_17 0 rfl rfl ?_
    refine v_iload_n cx dX3_weightAt_20 rfl 1 rfl ?_
    refine v_iald cx dX3_weightAt_21 1 rfl h (fun h => ?_)
    refine v_if_ne (tgt := 29) cx dX3_weightAt_22 (by decide) h (fun h => ?_) (fun h => ?_)
    · refine v_iload_n cx dX3_weightAt_29 rfl 1 rfl ?_
      refine v_iconst (v := 3) cx dX3_weightAt_30 (by decide) ?_
      refine v_irem cx dX3_weightAt_31 (by decide) ?_
      refine v_iconst (v := 2) cx dX3_weightAt_32 (by decide) ?_
      refine v_icmp_ne (tgt := 55) cx dX3_weightAt_33 (by decide) h (fun h => ?_) (fun h => ?_)
      · refine v_iconst (v := 0) cx dX3_weightAt_55 (by decide) ?_
        exact v_ireturn cx rfl dX3_weightAt_56 ⟨rfl, _, rfl, h⟩
      · refine v_aload_n cx dX3_weightAt_36 rfl 0 rfl ?_
        refine v_iload_n cx dX3_weightAt_37 rfl 3 rfl ?_
        refine v_iconst (v := 2) cx dX3_weightAt_38 (by decide) ?_
        refine v_callVpl (As := [.int x3, .int 2]) cx (c_X3_keyOf l g D cy q_t q_t_keys q_t_sizes q_t_qualities q_t_lengths q_t_ranges q_t_names q_t_weights q_t_ties h) k_X3_47 (by decide) ⟨rfl, rfl⟩ (by decide) rfl rfl (Nat.le_of_ble_eq_true rfl) dX3_weightAt_39 [0, 2] [1, 3] (by decide) rfl rfl rfl rfl (q0 := 0) rfl rfl (fun r_1 h => ?_)
        refine v_ldc2 cx dX3_weightAt_42 wKL_X3_83 ?_
        refine v_lcmp cx dX3_weightAt_45 ?_
        refine v_if_ne (tgt := 55) cx dX3_weightAt_46 (by decide) h (fun h => ?_) (fun h => ?_)
        · refine v_iconst (v := 0) cx dX3_weightAt_55 (by decide) ?_
          exact v_ireturn cx rfl dX3_weightAt_56 ⟨rfl, _, rfl, h⟩
        · refine v_sipush (v := 1000) cx dX3_weightAt_49 (by decide) ?_
          refine v_goto (tgt := 56) cx dX3_weightAt_52 (by decide) ?_
          exact v_ireturn cx rfl dX3_weightAt_56 ⟨rfl, _, rfl, h⟩
    · refine v_sipush (v := 1000) cx dX3_weightAt_25 (by decide) ?_
      exact v_ireturn cx rfl dX3_weightAt_28 ⟨rfl, _, rfl, h⟩
  · refine v_aload_n cx dX3_weightAt_5 rfl 0 rfl ?_
    refine g_X3_31 cx dX3_weightAt_6 0 rfl rfl ?_
    refine v_iload_n cx dX3_weightAt_9 rfl 1 rfl ?_
    refine v_iload_n cx dX3_weightAt_10 rfl 2 rfl ?_
    refine v_callSNpi (As := [.int x1, .int x2]) cx (c_X5_rowOf l g D cy  h) k_X3_60 (by decide) ⟨rfl, rfl⟩ (by decide) rfl rfl (Nat.le_of_ble_eq_true rfl) dX3_weightAt_11 [] [0, 1, 2, 3] (by decide) rfl rfl rfl rfl (fun r_2 h => ?_)
    refine v_iald cx dX3_weightAt_14 3 rfl h (fun h => ?_)
    exact v_ireturn cx rfl dX3_weightAt_15 ⟨rfl, _, rfl, h⟩

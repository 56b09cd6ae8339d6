abbrev rm_X5_undo : Room := { frames := 6, cells := 1, slots := 6, locals := 82 }
set_option maxHeartbeats 8000000 in
set_option maxRecDepth 100000 in
theorem c_X5_undo (l : Launch) (hl : l.stackTraces = false) (g : gT) (D : va_G) (cy : Nat → ClassId) (q_t q_t_text q_t_reader q_t_now q_t_scores q_t_trial q_t_listing q_t_kept q_t_kept0 q_t_kept1 q_t_kept2 q_t_kept3 q_t_now_keys q_t_now_sizes q_t_now_qualities q_t_now_lengths q_t_now_ranges q_t_now_names q_t_now_weights q_t_now_ties q_t_kept0_keys q_t_kept0_sizes q_t_kept0_qualities q_t_kept0_lengths q_t_kept0_ranges q_t_kept0_names q_t_kept0_weights q_t_kept0_ties q_t_kept1_keys q_t_kept1_sizes q_t_kept1_qualities q_t_kept1_lengths q_t_kept1_ranges q_t_kept1_names q_t_kept1_weights q_t_kept1_ties q_t_kept2_keys q_t_kept2_sizes q_t_kept2_qualities q_t_kept2_lengths q_t_kept2_ranges q_t_kept2_names q_t_kept2_weights q_t_kept2_ties q_t_kept3_keys q_t_kept3_sizes q_t_kept3_qualities q_t_kept3_lengths q_t_kept3_ranges q_t_kept3_names q_t_kept3_weights q_t_kept3_ties : Nat) {t_keptCount : Int32} {t_stale : Int32} {t_now_variants : Int32} {t_now_keys : Nat → Int64} {t_now_sizes : Nat → Int32} {t_now_qualities : Nat → Int32} {t_now_lengths : Nat → Int32} {t_now_ranges : Nat → Int64} {t_now_names : Nat → Int32} {t_now_weights : Nat → Int32} {t_now_ties : Nat → Int32} {t_kept0_variants : Int32} {t_kept0_keys : Nat → Int64} {t_kept0_sizes : Nat → Int32} {t_kept0_qualities : Nat → Int32} {t_kept0_lengths : Nat → Int32} {t_kept0_ranges : Nat → Int64} {t_kept0_names : Nat → Int32} {t_kept0_weights : Nat → Int32} {t_kept0_ties : Nat → Int32} {t_kept1_variants : Int32} {t_kept1_keys : Nat → Int64} {t_kept1_sizes : Nat → Int32} {t_kept1_qualities : Nat → Int32} {t_kept1_lengths : Nat → Int32} {t_kept1_ranges : Nat → Int64} {t_kept1_names : Nat → Int32} {t_kept1_weights : Nat → Int32} {t_kept1_ties : Nat → Int32} {t_kept2_variants : Int32} {t_kept2_keys : Nat → Int64} {t_kept2_sizes : Nat → Int32} {t_kept2_qualities : Nat → Int32} {t_kept2_lengths : Nat → Int32} {t_kept2_ranges : Nat → Int64} {t_kept2_names : Nat → Int32} {t_kept2_weights : Nat → Int32} {t_kept2_ties : Nat → Int32} {t_kept3_variants : Int32} {t_kept3_keys : Nat → Int64} {t_kept3_sizes : Nat → Int32} {t_kept3_qualities : Nat → Int32} {t_kept3_lengths : Nat → Int32} {t_kept3_ranges : Nat → Int64} {t_kept3_names : Nat → Int32} {t_kept3_weights : Nat → Int32} {t_kept3_ties : Nat → Int32} {N : Nat} {Q : Int32 → Int32 → Int32 → Int32 → (Nat → Int64) → (Nat → Int32) → (Nat → Int32) → (Nat → Int32) → (Nat → Int64) → (Nat → Int32) → (Nat → Int32) → (Nat → Int32) → Prop} {X : String → Int32 → Int32 → Int32 → (Nat → Int64) → (Nat → Int32) → (Nat → Int32) → (Nat → Int32) → (Nat → Int64) → (Nat → Int32) → (Nat → Int32) → (Nat → Int32) → Prop} (h : p_X5_undo N t_keptCount t_stale t_now_variants t_now_keys t_now_sizes t_now_qualities t_now_lengths t_now_ranges t_now_names t_now_weights t_now_ties t_kept0_variants t_kept0_keys t_kept0_sizes t_kept0_qualities t_kept0_lengths t_kept0_ranges t_kept0_names t_kept0_weights t_kept0_ties t_kept1_variants t_kept1_keys t_kept1_sizes t_kept1_qualities t_kept1_lengths t_kept1_ranges t_kept1_names t_kept1_weights t_kept1_ties t_kept2_variants t_kept2_keys t_kept2_sizes t_kept2_qualities t_kept2_lengths t_kept2_ranges t_kept2_names t_kept2_weights t_kept2_ties t_kept3_variants t_kept3_keys t_kept3_sizes t_kept3_qualities t_kept3_lengths t_kept3_ranges t_kept3_names t_kept3_weights t_kept3_ties Q X) : UX l yX5_undo cX5_undo 1 (some .int) rm_X5_undo g D cy [.ref q_t] [(q_t, .inr (5, [.ref q_t_text, .ref q_t_reader, .ref q_t_now, .ref q_t_scores, .ref q_t_trial, .ref q_t_listing, .ref q_t_kept, .int t_keptCount, .int t_stale])), (q_t_kept, .inl (cy 4, 4, .inr (.inr (.inr (.inr (ga4 q_t_kept0 q_t_kept1 q_t_kept2 q_t_kept3)))))), (q_t_now, .inr (3, [.int t_now_variants, .ref q_t_now_keys, .ref q_t_now_sizes, .ref q_t_now_qualities, .ref q_t_now_lengths, .ref q_t_now_ranges, .ref q_t_now_names, .ref q_t_now_weights, .ref q_t_now_ties])), (q_t_now_keys, .inl (cy 1, 48, .inr (.inl t_now_keys))), (q_t_now_sizes, .inl (cy 0, 16, .inl t_now_sizes)), (q_t_now_qualities, .inl (cy 0, 16, .inl t_now_qualities)), (q_t_now_lengths, .inl (cy 0, 6, .inl t_now_lengths)), (q_t_now_ranges, .inl (cy 1, 60, .inr (.inl t_now_ranges))), (q_t_now_names, .inl (cy 0, 60, .inl t_now_names)), (q_t_now_weights, .inl (cy 0, 60, .inl t_now_weights)), (q_t_now_ties, .inl (cy 0, 3, .inl t_now_ties)), (q_t_kept0, .inr (3, [.int t_kept0_variants, .ref q_t_kept0_keys, .ref q_t_kept0_sizes, .ref q_t_kept0_qualities, .ref q_t_kept0_lengths, .ref q_t_kept0_ranges, .ref q_t_kept0_names, .ref q_t_kept0_weights, .ref q_t_kept0_ties])), (q_t_kept0_keys, .inl (cy 1, 48, .inr (.inl t_kept0_keys))), (q_t_kept0_sizes, .inl (cy 0, 16, .inl t_kept0_sizes)), (q_t_kept0_qualities, .inl (cy 0, 16, .inl t_kept0_qualities)), (q_t_kept0_lengths, .inl (cy 0, 6, .inl t_kept0_lengths)), (q_t_kept0_ranges, .inl (cy 1, 60, .inr (.inl t_kept0_ranges))), (q_t_kept0_names, .inl (cy 0, 60, .inl t_kept0_names)), (q_t_kept0_weights, .inl (cy 0, 60, .inl t_kept0_weights)), (q_t_kept0_ties, .inl (cy 0, 3, .inl t_kept0_ties)), (q_t_kept1, .inr (3, [.int t_kept1_variants, .ref q_t_kept1_keys, .ref q_t_kept1_sizes, .ref q_t_kept1_qualities, .ref q_t_kept1_lengths, .ref q_t_kept1_ranges, .ref q_t_kept1_names, .ref q_t_kept1_weights, .ref q_t_kept1_ties])), (q_t_kept1_keys, .inl (cy 1, 48, .inr (.inl t_kept1_keys))), (q_t_kept1_sizes, .inl (cy 0, 16, .inl t_kept1_sizes)), (q_t_kept1_qualities, .inl (cy 0, 16, .inl t_kept1_qualities)), (q_t_kept1_lengths, .inl (cy 0, 6, .inl t_kept1_lengths)), (q_t_kept1_ranges, .inl (cy 1, 60, .inr (.inl t_kept1_ranges))), (q_t_kept1_names, .inl (cy 0, 60, .inl t_kept1_names)), (q_t_kept1_weights, .inl (cy 0, 60, .inl t_kept1_weights)), (q_t_kept1_ties, .inl (cy 0, 3, .inl t_kept1_ties)), (q_t_kept2, .inr (3, [.int t_kept2_variants, .ref q_t_kept2_keys, .ref q_t_kept2_sizes, .ref q_t_kept2_qualities, .ref q_t_kept2_lengths, .ref q_t_kept2_ranges, .ref q_t_kept2_names, .ref q_t_kept2_weights, .ref q_t_kept2_ties])), (q_t_kept2_keys, .inl (cy 1, 48, .inr (.inl t_kept2_keys))), (q_t_kept2_sizes, .inl (cy 0, 16, .inl t_kept2_sizes)), (q_t_kept2_qualities, .inl (cy 0, 16, .inl t_kept2_qualities)), (q_t_kept2_lengths, .inl (cy 0, 6, .inl t_kept2_lengths)), (q_t_kept2_ranges, .inl (cy 1, 60, .inr (.inl t_kept2_ranges))), (q_t_kept2_names, .inl (cy 0, 60, .inl t_kept2_names)), (q_t_kept2_weights, .inl (cy 0, 60, .inl t_kept2_weights)), (q_t_kept2_ties, .inl (cy 0, 3, .inl t_kept2_ties)), (q_t_kept3, .inr (3, [.int t_kept3_variants, .ref q_t_kept3_keys, .ref q_t_kept3_sizes, .ref q_t_kept3_qualities, .ref q_t_kept3_lengths, .ref q_t_kept3_ranges, .ref q_t_kept3_names, .ref q_t_kept3_weights, .ref q_t_kept3_ties])), (q_t_kept3_keys, .inl (cy 1, 48, .inr (.inl t_kept3_keys))), (q_t_kept3_sizes, .inl (cy 0, 16, .inl t_kept3_sizes)), (q_t_kept3_qualities, .inl (cy 0, 16, .inl t_kept3_qualities)), (q_t_kept3_lengths, .inl (cy 0, 6, .inl t_kept3_lengths)), (q_t_kept3_ranges, .inl (cy 1, 60, .inr (.inl t_kept3_ranges))), (q_t_kept3_names, .inl (cy 0, 60, .inl t_kept3_names)), (q_t_kept3_weights, .inl (cy 0, 60, .inl t_kept3_weights)), (q_t_kept3_ties, .inl (cy 0, 3, .inl t_kept3_ties))] (fun v w => ∃ (r : Int32) (t_keptCount' : Int32) (t_stale' : Int32) (t_now_variants' : Int32) (t_now_keys' : Nat → Int64) (t_now_sizes' : Nat → Int32) (t_now_qualities' : Nat → Int32) (t_now_lengths' : Nat → Int32) (t_now_ranges' : Nat → Int64) (t_now_names' : Nat → Int32) (t_now_weights' : Nat → Int32) (t_now_ties' : Nat → Int32), v = some (.int r) ∧ w = [(q_t, .inr (5, [.ref q_t_text, .ref q_t_reader, .ref q_t_now, .ref q_t_scores, .ref q_t_trial, .ref q_t_listing, .ref q_t_kept, .int t_keptCount', .int t_stale'])), (q_t_kept, .inl (cy 4, 4, .inr (.inr (.inr (.inr (ga4 q_t_kept0 q_t_kept1 q_t_kept2 q_t_kept3)))))), (q_t_now, .inr (3, [.int t_now_variants', .ref q_t_now_keys, .ref q_t_now_sizes, .ref q_t_now_qualities, .ref q_t_now_lengths, .ref q_t_now_ranges, .ref q_t_now_names, .ref q_t_now_weights, .ref q_t_now_ties])), (q_t_now_keys, .inl (cy 1, 48, .inr (.inl t_now_keys'))), (q_t_now_sizes, .inl (cy 0, 16, .inl t_now_sizes')), (q_t_now_qualities, .inl (cy 0, 16, .inl t_now_qualities')), (q_t_now_lengths, .inl (cy 0, 6, .inl t_now_lengths')), (q_t_now_ranges, .inl (cy 1, 60, .inr (.inl t_now_ranges'))), (q_t_now_names, .inl (cy 0, 60, .inl t_now_names')), (q_t_now_weights, .inl (cy 0, 60, .inl t_now_weights')), (q_t_now_ties, .inl (cy 0, 3, .inl t_now_ties')), (q_t_kept0, .inr (3, [.int t_kept0_variants, .ref q_t_kept0_keys, .ref q_t_kept0_sizes, .ref q_t_kept0_qualities, .ref q_t_kept0_lengths, .ref q_t_kept0_ranges, .ref q_t_kept0_names, .ref q_t_kept0_weights, .ref q_t_kept0_ties])), (q_t_kept0_keys, .inl (cy 1, 48, .inr (.inl t_kept0_keys))), (q_t_kept0_sizes, .inl (cy 0, 16, .inl t_kept0_sizes)), (q_t_kept0_qualities, .inl (cy 0, 16, .inl t_kept0_qualities)), (q_t_kept0_lengths, .inl (cy 0, 6, .inl t_kept0_lengths)), (q_t_kept0_ranges, .inl (cy 1, 60, .inr (.inl t_kept0_ranges))), (q_t_kept0_names, .inl (cy 0, 60, .inl t_kept0_names)), (q_t_kept0_weights, .inl (cy 0, 60, .inl t_kept0_weights)), (q_t_kept0_ties, .inl (cy 0, 3, .inl t_kept0_ties)), (q_t_kept1, .inr (3, [.int t_kept1_variants, .ref q_t_kept1_keys, .ref q_t_kept1_sizes, .ref q_t_kept1_qualities, .ref q_t_kept1_lengths, .ref q_t_kept1_ranges, .ref q_t_kept1_names, .ref q_t_kept1_weights, .ref q_t_kept1_ties])), (q_t_kept1_keys, .inl (cy 1, 48, .inr (.inl t_kept1_keys))), (q_t_kept1_sizes, .inl (cy 0, 16, .inl t_kept1_sizes)), (q_t_kept1_qualities, .inl (cy 0, 16, .inl t_kept1_qualities)), (q_t_kept1_lengths, .inl (cy 0, 6, .inl t_kept1_lengths)), (q_t_kept1_ranges, .inl (cy 1, 60, .inr (.inl t_kept1_ranges))), (q_t_kept1_names, .inl (cy 0, 60, .inl t_kept1_names)), (q_t_kept1_weights, .inl (cy 0, 60, .inl t_kept1_weights)), (q_t_kept1_ties, .inl (cy 0, 3, .inl t_kept1_ties)), (q_t_kept2, .inr (3, [.int t_kept2_variants, .ref q_t_kept2_keys, .ref q_t_kept2_sizes, .ref q_t_kept2_qualities, .ref q_t_kept2_lengths, .ref q_t_kept2_ranges, .ref q_t_kept2_names, .ref q_t_kept2_weights, .ref q_t_kept2_ties])), (q_t_kept2_keys, .inl (cy 1, 48, .inr (.inl t_kept2_keys))), (q_t_kept2_sizes, .inl (cy 0, 16, .inl t_kept2_sizes)), (q_t_kept2_qualities, .inl (cy 0, 16, .inl t_kept2_qualities)), (q_t_kept2_lengths, .inl (cy 0, 6, .inl t_kept2_lengths)), (q_t_kept2_ranges, .inl (cy 1, 60, .inr (.inl t_kept2_ranges))), (q_t_kept2_names, .inl (cy 0, 60, .inl t_kept2_names)), (q_t_kept2_weights, .inl (cy 0, 60, .inl t_kept2_weights)), (q_t_kept2_ties, .inl (cy 0, 3, .inl t_kept2_ties)), (q_t_kept3, .inr (3, [.int t_kept3_variants, .ref q_t_kept3_keys, .ref q_t_kept3_sizes, .ref q_t_kept3_qualities, .ref q_t_kept3_lengths, .ref q_t_kept3_ranges, .ref q_t_kept3_names, .ref q_t_kept3_weights, .ref q_t_kept3_ties])), (q_t_kept3_keys, .inl (cy 1, 48, .inr (.inl t_kept3_keys))), (q_t_kept3_sizes, .inl (cy 0, 16, .inl t_kept3_sizes)), (q_t_kept3_qualities, .inl (cy 0, 16, .inl t_kept3_qualities)), (q_t_kept3_lengths, .inl (cy 0, 6, .inl t_kept3_lengths)), (q_t_kept3_ranges, .inl (cy 1, 60, .inr (.inl t_kept3_ranges))), (q_t_kept3_names, .inl (cy 0, 60, .inl t_kept3_names)), (q_t_kept3_weights, .inl (cy 0, 60, .inl t_kept3_weights)), (q_t_kept3_ties, .inl (cy 0, 3, .inl t_kept3_ties))] ∧ Q r t_keptCount' t_stale' t_now_variants' t_now_keys' t_now_sizes' t_now_qualities' t_now_lengths' t_now_ranges' t_now_names' t_now_weights' t_now_ties') (fun E w => (E = "java/lang/IllegalStateException") ∧ ∃ (t_keptCount' : Int32) (t_stale' : Int32) (t_now_variants' : Int32) (t_now_keys' : Nat → Int64) (t_now_sizes' : Nat → Int32) (t_now_qualities' : Nat → Int32) (t_now_lengths' : Nat → Int32) (t_now_ranges' : Nat → Int64) (t_now_names' : Nat → Int32) (t_now_weights' : Nat → Int32) (t_now_ties' : Nat → Int32), w = [(q_t, .inr (5, [.ref q_t_text, .ref q_t_reader, .ref q_t_now, .ref q_t_scores, .ref q_t_trial, .ref q_t_listing, .ref q_t_kept, .int t_keptCount', .int t_stale'])), (q_t_kept, .inl (cy 4, 4, .inr (.inr (.inr (.inr (ga4 q_t_kept0 q_t_kept1 q_t_kept2 q_t_kept3)))))), (q_t_now, .inr (3, [.int t_now_variants', .ref q_t_now_keys, .ref q_t_now_sizes, .ref q_t_now_qualities, .ref q_t_now_lengths, .ref q_t_now_ranges, .ref q_t_now_names, .ref q_t_now_weights, .ref q_t_now_ties])), (q_t_now_keys, .inl (cy 1, 48, .inr (.inl t_now_keys'))), (q_t_now_sizes, .inl (cy 0, 16, .inl t_now_sizes')), (q_t_now_qualities, .inl (cy 0, 16, .inl t_now_qualities')), (q_t_now_lengths, .inl (cy 0, 6, .inl t_now_lengths')), (q_t_now_ranges, .inl (cy 1, 60, .inr (.inl t_now_ranges'))), (q_t_now_names, .inl (cy 0, 60, .inl t_now_names')), (q_t_now_weights, .inl (cy 0, 60, .inl t_now_weights')), (q_t_now_ties, .inl (cy 0, 3, .inl t_now_ties')), (q_t_kept0, .inr (3, [.int t_kept0_variants, .ref q_t_kept0_keys, .ref q_t_kept0_sizes, .ref q_t_kept0_qualities, .ref q_t_kept0_lengths, .ref q_t_kept0_ranges, .ref q_t_kept0_names, .ref q_t_kept0_weights, .ref q_t_kept0_ties])), (q_t_kept0_keys, .inl (cy 1, 48, .inr (.inl t_kept0_keys))), (q_t_kept0_sizes, .inl (cy 0, 16, .inl t_kept0_sizes)), (q_t_kept0_qualities, .inl (cy 0, 16, .inl t_kept0_qualities)), (q_t_kept0_lengths, .inl (cy 0, 6, .inl t_kept0_lengths)), (q_t_kept0_ranges, .inl (cy 1, 60, .inr (.inl t_kept0_ranges))), (q_t_kept0_names, .inl (cy 0, 60, .inl t_kept0_names)), (q_t_kept0_weights, .inl (cy 0, 60, .inl t_kept0_weights)), (q_t_kept0_ties, .inl (cy 0, 3, .inl t_kept0_ties)), (q_t_kept1, .inr (3, [.int t_kept1_variants, .ref q_t_kept1_keys, .ref q_t_kept1_sizes, .ref q_t_kept1_qualities, .ref q_t_kept1_lengths, .ref q_t_kept1_ranges, .ref q_t_kept1_names, .ref q_t_kept1_weights, .ref q_t_kept1_ties])), (q_t_kept1_keys, .inl (cy 1, 48, .inr (.inl t_kept1_keys))), (q_t_kept1_sizes, .inl (cy 0, 16, .inl t_kept1_sizes)), (q_t_kept1_qualities, .inl (cy 0, 16, .inl t_kept1_qualities)), (q_t_kept1_lengths, .inl (cy 0, 6, .inl t_kept1_lengths)), (q_t_kept1_ranges, .inl (cy 1, 60, .inr (.inl t_kept1_ranges))), (q_t_kept1_names, .inl (cy 0, 60, .inl t_kept1_names)), (q_t_kept1_weights, .inl (cy 0, 60, .inl t_kept1_weights)), (q_t_kept1_ties, .inl (cy 0, 3, .inl t_kept1_ties)), (q_t_kept2, .inr (3, [.int t_kept2_variants, .ref q_t_kept2_keys, .ref q_t_kept2_sizes, .ref q_t_kept2_qualities, .ref q_t_kept2_lengths, .ref q_t_kept2_ranges, .ref q_t_kept2_names, .ref q_t_kept2_weights, .ref q_t_kept2_ties])), (q_t_kept2_keys, .inl (cy 1, 48, .inr (.inl t_kept2_keys))), (q_t_kept2_sizes, .inl (cy 0, 16, .inl t_kept2_sizes)), (q_t_kept2_qualities, .inl (cy 0, 16, .inl t_kept2_qualities)), (q_t_kept2_lengths, .inl (cy 0, 6, .inl t_kept2_lengths)), (q_t_kept2_ranges, .inl (cy 1, 60, .inr (.inl t_kept2_ranges))), (q_t_kept2_names, .inl (cy 0, 60, .inl t_kept2_names)), (q_t_kept2_weights, .inl (cy 0, 60, .inl t_kept2_weights)), (q_t_kept2_ties, .inl (cy 0, 3, .inl t_kept2_ties)), (q_t_kept3, .inr (3, [.int t_kept3_variants, .ref q_t_kept3_keys, .ref q_t_kept3_sizes, .ref q_t_kept3_qualities, .ref q_t_kept3_lengths, .ref q_t_kept3_ranges, .ref q_t_kept3_names, .ref q_t_kept3_weights, .ref q_t_kept3_ties])), (q_t_kept3_keys, .inl (cy 1, 48, .inr (.inl t_kept3_keys))), (q_t_kept3_sizes, .inl (cy 0, 16, .inl t_kept3_sizes)), (q_t_kept3_qualities, .inl (cy 0, 16, .inl t_kept3_qualities)), (q_t_kept3_lengths, .inl (cy 0, 6, .inl t_kept3_lengths)), (q_t_kept3_ranges, .inl (cy 1, 60, .inr (.inl t_kept3_ranges))), (q_t_kept3_names, .inl (cy 0, 60, .inl t_kept3_names)), (q_t_kept3_weights, .inl (cy 0, 60, .inl t_kept3_weights)), (q_t_kept3_ties, .inl (cy 0, 3, .inl t_kept3_ties))] ∧ X E t_keptCount' t_stale' t_now_variants' t_now_keys' t_now_sizes' t_now_qualities' t_now_lengths' t_now_ranges' t_now_names' t_now_weights' t_now_ties') := by
  refine UX_of (by decide +kernel) (Nat.le_of_ble_eq_true rfl) [(0, .ref q_t)] rfl (fun p e s m args below meth c A cx hexc => ?_)
  unfold p_X5_undo at h
  refine v_aload_n cx dX5_undo_0 rfl 0 rfl ?_
  refine g_X5_55 cx dX5_undo_1 0 rfl rfl ?_
  refine v_if_gt (tgt := 17) cx dX5_undo_4 (by decide) h (fun h => ?_) (fun h => ?_)
  · refine v_aload_n cx dX5_undo_17 rfl 0 rfl ?_
    refine v_dup cx dX5_undo_18 rfl ?_
    refine g_X5_55 cx dX5_undo_19 0 rfl rfl ?_
    refine v_iconst (v := 1) cx dX5_undo_22 (by decide) ?_
    refine v_isub cx dX5_undo_23 ?_
    refine p_X5_55 (ws' := [(q_t, .inr (5, [.ref q_t_text, .ref q_t_reader, .ref q_t_now, .ref q_t_scores, .ref q_t_trial, .ref q_t_listing, .ref q_t_kept, .int (t_keptCount - 1), .int t_stale])), (q_t_kept, .inl (cy 4, 4, .inr (.inr (.inr (.inr (ga4 q_t_kept0 q_t_kept1 q_t_kept2 q_t_kept3)))))), (q_t_now, .inr (3, [.int t_now_variants, .ref q_t_now_keys, .ref q_t_now_sizes, .ref q_t_now_qualities, .ref q_t_now_lengths, .ref q_t_now_ranges, .ref q_t_now_names, .ref q_t_now_weights, .ref q_t_now_ties])), (q_t_now_keys, .inl (cy 1, 48, .inr (.inl t_now_keys))), (q_t_now_sizes, .inl (cy 0, 16, .inl t_now_sizes)), (q_t_now_qualities, .inl (cy 0, 16, .inl t_now_qualities)), (q_t_now_lengths, .inl (cy 0, 6, .inl t_now_lengths)), (q_t_now_ranges, .inl (cy 1, 60, .inr (.inl t_now_ranges))), (q_t_now_names, .inl (cy 0, 60, .inl t_now_names)), (q_t_now_weights, .inl (cy 0, 60, .inl t_now_weights)), (q_t_now_ties, .inl (cy 0, 3, .inl t_now_ties)), (q_t_kept0, .inr (3, [.int t_kept0_variants, .ref q_t_kept0_keys, .ref q_t_kept0_sizes, .ref q_t_kept0_qualities, .ref q_t_kept0_lengths, .ref q_t_kept0_ranges, .ref q_t_kept0_names, .ref q_t_kept0_weights, .ref q_t_kept0_ties])), (q_t_kept0_keys, .inl (cy 1, 48, .inr (.inl t_kept0_keys))), (q_t_kept0_sizes, .inl (cy 0, 16, .inl t_kept0_sizes)), (q_t_kept0_qualities, .inl (cy 0, 16, .inl t_kept0_qualities)), (q_t_kept0_lengths, .inl (cy 0, 6, .inl t_kept0_lengths)), (q_t_kept0_ranges, .inl (cy 1, 60, .inr (.inl t_kept0_ranges))), (q_t_kept0_names, .inl (cy 0, 60, .inl t_kept0_names)), (q_t_kept0_weights, .inl (cy 0, 60, .inl t_kept0_weights)), (q_t_kept0_ties, .inl (cy 0, 3, .inl t_kept0_ties)), (q_t_kept1, .inr (3, [.int t_kept1_variants, .ref q_t_kept1_keys, .ref q_t_kept1_sizes, .ref q_t_kept1_qualities, .ref q_t_kept1_lengths, .ref q_t_kept1_ranges, .ref q_t_kept1_names, .ref q_t_kept1_weights, .ref q_t_kept1_ties])), (q_t_kept1_keys, .inl (cy 1, 48, .inr (.inl t_kept1_keys))), (q_t_kept1_sizes, .inl (cy 0, 16, .inl t_kept1_sizes)), (q_t_kept1_qualities, .inl (cy 0, 16, .inl t_kept1_qualities)), (q_t_kept1_lengths, .inl (cy 0, 6, .inl t_kept1_lengths)), (q_t_kept1_ranges, .inl (cy 1, 60, .inr (.inl t_kept1_ranges))), (q_t_kept1_names, .inl (cy 0, 60, .inl t_kept1_names)), (q_t_kept1_weights, .inl (cy 0, 60, .inl t_kept1_weights)), (q_t_kept1_ties, .inl (cy 0, 3, .inl t_kept1_ties)), (q_t_kept2, .inr (3, [.int t_kept2_variants, .ref q_t_kept2_keys, .ref q_t_kept2_sizes, .ref q_t_kept2_qualities, .ref q_t_kept2_lengths, .ref q_t_kept2_ranges, .ref q_t_kept2_names, .ref q_t_kept2_weights, .ref q_t_kept2_ties])), (q_t_kept2_keys, .inl (cy 1, 48, .inr (.inl t_kept2_keys))), (q_t_kept2_sizes, .inl (cy 0, 16, .inl t_kept2_sizes)), (q_t_kept2_qualities, .inl (cy 0, 16, .inl t_kept2_qualities)), (q_t_kept2_lengths, .inl (cy 0, 6, .inl t_kept2_lengths)), (q_t_kept2_ranges, .inl (cy 1, 60, .inr (.inl t_kept2_ranges))), (q_t_kept2_names, .inl (cy 0, 60, .inl t_kept2_names)), (q_t_kept2_weights, .inl (cy 0, 60, .inl t_kept2_weights)), (q_t_kept2_ties, .inl (cy 0, 3, .inl t_kept2_ties)), (q_t_kept3, .inr (3, [.int t_kept3_variants, .ref q_t_kept3_keys, .ref q_t_kept3_sizes, .ref q_t_kept3_qualities, .ref q_t_kept3_lengths, .ref q_t_kept3_ranges, .ref q_t_kept3_names, .ref q_t_kept3_weights, .ref q_t_kept3_ties])), (q_t_kept3_keys, .inl (cy 1, 48, .inr (.inl t_kept3_keys))), (q_t_kept3_sizes, .inl (cy 0, 16, .inl t_kept3_sizes)), (q_t_kept3_qualities, .inl (cy 0, 16, .inl t_kept3_qualities)), (q_t_kept3_lengths, .inl (cy 0, 6, .inl t_kept3_lengths)), (q_t_kept3_ranges, .inl (cy 1, 60, .inr (.inl t_kept3_ranges))), (q_t_kept3_names, .inl (cy 0, 60, .inl t_kept3_names)), (q_t_kept3_weights, .inl (cy 0, 60, .inl t_kept3_weights)), (q_t_kept3_ties, .inl (cy 0, 3, .inl t_kept3_ties))]) cx dX5_undo_24 0 rfl rfl rfl (Nat.le_of_ble_eq_true rfl) rfl ?_
    refine v_aload_n cx dX5_undo_27 rfl 0 rfl ?_
    refine g_X5_28 cx dX5_undo_28 0 rfl rfl ?_
    refine v_aload_n cx dX5_undo_31 rfl 0 rfl ?_
    refine g_X5_51 cx dX5_undo_32 0 rfl rfl ?_
    refine v_aload_n cx dX5_undo_35 rfl 0 rfl ?_
    refine g_X5_55 cx dX5_undo_36 0 rfl rfl ?_
    obtain ⟨hin, h0, h1, h2, h3⟩ := h
    rcases vp_in4 hin with hi | hi | hi | hi
    · have h := h0 hi
      refine v_aald cx dX5_undo_39 1 rfl ⟨hin, h⟩ (by rw [hi]; try rfl) (fun h => ?_)
      refine v_callV (As := [.ref q_t_kept0]) cx (c_X3_copyFrom l g D cy q_t_now q_t_now_keys q_t_now_sizes q_t_now_qualities q_t_now_lengths q_t_now_ranges q_t_now_names q_t_now_weights q_t_now_ties q_t_kept0 q_t_kept0_keys q_t_kept0_sizes q_t_kept0_qualities q_t_kept0_lengths q_t_kept0_ranges q_t_kept0_names q_t_kept0_weights q_t_kept0_ties h) k_X5_229 (by decide) (by decide) rfl rfl (Nat.le_of_ble_eq_true rfl) dX5_undo_40 [2, 3, 4, 5, 6, 7, 8, 9, 10, 11, 12, 13, 14, 15, 16, 17, 18, 19] [0, 1, 20, 21, 22, 23, 24, 25, 26, 27, 28, 29, 30, 31, 32, 33, 34, 35, 36, 37, 38, 39, 40, 41, 42, 43, 44, 45, 46] (by decide) rfl rfl rfl (q0 := 0) rfl rfl (fun v9 w9 hp => ?_)
      refine Exists.elim hp fun u_1 hp => Exists.elim hp fun u_2 hp => Exists.elim hp fun u_3 hp => Exists.elim hp fun u_4 hp => Exists.elim hp fun u_5 hp => Exists.elim hp fun u_6 hp => Exists.elim hp fun u_7 hp => Exists.elim hp fun u_8 hp => Exists.elim hp fun u_9 hp => ?_
      obtain ⟨rfl, rfl, h⟩ := hp
      refine v_afterJ (ws' := [(q_t, .inr (5, [.ref q_t_text, .ref q_t_reader, .ref q_t_now, .ref q_t_scores, .ref q_t_trial, .ref q_t_listing, .ref q_t_kept, .int (t_keptCount - 1), .int t_stale])), (q_t_kept, .inl (cy 4, 4, .inr (.inr (.inr (.inr (ga4 q_t_kept0 q_t_kept1 q_t_kept2 q_t_kept3)))))), (q_t_now, .inr (3, [.int u_1, .ref q_t_now_keys, .ref q_t_now_sizes, .ref q_t_now_qualities, .ref q_t_now_lengths, .ref q_t_now_ranges, .ref q_t_now_names, .ref q_t_now_weights, .ref q_t_now_ties])), (q_t_now_keys, .inl (cy 1, 48, .inr (.inl u_2))), (q_t_now_sizes, .inl (cy 0, 16, .inl u_3)), (q_t_now_qualities, .inl (cy 0, 16, .inl u_4)), (q_t_now_lengths, .inl (cy 0, 6, .inl u_5)), (q_t_now_ranges, .inl (cy 1, 60, .inr (.inl u_6))), (q_t_now_names, .inl (cy 0, 60, .inl u_7)), (q_t_now_weights, .inl (cy 0, 60, .inl u_8)), (q_t_now_ties, .inl (cy 0, 3, .inl u_9)), (q_t_kept0, .inr (3, [.int t_kept0_variants, .ref q_t_kept0_keys, .ref q_t_kept0_sizes, .ref q_t_kept0_qualities, .ref q_t_kept0_lengths, .ref q_t_kept0_ranges, .ref q_t_kept0_names, .ref q_t_kept0_weights, .ref q_t_kept0_ties])), (q_t_kept0_keys, .inl (cy 1, 48, .inr (.inl t_kept0_keys))), (q_t_kept0_sizes, .inl (cy 0, 16, .inl t_kept0_sizes)), (q_t_kept0_qualities, .inl (cy 0, 16, .inl t_kept0_qualities)), (q_t_kept0_lengths, .inl (cy 0, 6, .inl t_kept0_lengths)), (q_t_kept0_ranges, .inl (cy 1, 60, .inr (.inl t_kept0_ranges))), (q_t_kept0_names, .inl (cy 0, 60, .inl t_kept0_names)), (q_t_kept0_weights, .inl (cy 0, 60, .inl t_kept0_weights)), (q_t_kept0_ties, .inl (cy 0, 3, .inl t_kept0_ties)), (q_t_kept1, .inr (3, [.int t_kept1_variants, .ref q_t_kept1_keys, .ref q_t_kept1_sizes, .ref q_t_kept1_qualities, .ref q_t_kept1_lengths, .ref q_t_kept1_ranges, .ref q_t_kept1_names, .ref q_t_kept1_weights, .ref q_t_kept1_ties])), (q_t_kept1_keys, .inl (cy 1, 48, .inr (.inl t_kept1_keys))), (q_t_kept1_sizes, .inl (cy 0, 16, .inl t_kept1_sizes)), (q_t_kept1_qualities, .inl (cy 0, 16, .inl t_kept1_qualities)), (q_t_kept1_lengths, .inl (cy 0, 6, .inl t_kept1_lengths)), (q_t_kept1_ranges, .inl (cy 1, 60, .inr (.inl t_kept1_ranges))), (q_t_kept1_names, .inl (cy 0, 60, .inl t_kept1_names)), (q_t_kept1_weights, .inl (cy 0, 60, .inl t_kept1_weights)), (q_t_kept1_ties, .inl (cy 0, 3, .inl t_kept1_ties)), (q_t_kept2, .inr (3, [.int t_kept2_variants, .ref q_t_kept2_keys, .ref q_t_kept2_sizes, .ref q_t_kept2_qualities, .ref q_t_kept2_lengths, .ref q_t_kept2_ranges, .ref q_t_kept2_names, .ref q_t_kept2_weights, .ref q_t_kept2_ties])), (q_t_kept2_keys, .inl (cy 1, 48, .inr (.inl t_kept2_keys))), (q_t_kept2_sizes, .inl (cy 0, 16, .inl t_kept2_sizes)), (q_t_kept2_qualities, .inl (cy 0, 16, .inl t_kept2_qualities)), (q_t_kept2_lengths, .inl (cy 0, 6, .inl t_kept2_lengths)), (q_t_kept2_ranges, .inl (cy 1, 60, .inr (.inl t_kept2_ranges))), (q_t_kept2_names, .inl (cy 0, 60, .inl t_kept2_names)), (q_t_kept2_weights, .inl (cy 0, 60, .inl t_kept2_weights)), (q_t_kept2_ties, .inl (cy 0, 3, .inl t_kept2_ties)), (q_t_kept3, .inr (3, [.int t_kept3_variants, .ref q_t_kept3_keys, .ref q_t_kept3_sizes, .ref q_t_kept3_qualities, .ref q_t_kept3_lengths, .ref q_t_kept3_ranges, .ref q_t_kept3_names, .ref q_t_kept3_weights, .ref q_t_kept3_ties])), (q_t_kept3_keys, .inl (cy 1, 48, .inr (.inl t_kept3_keys))), (q_t_kept3_sizes, .inl (cy 0, 16, .inl t_kept3_sizes)), (q_t_kept3_qualities, .inl (cy 0, 16, .inl t_kept3_qualities)), (q_t_kept3_lengths, .inl (cy 0, 6, .inl t_kept3_lengths)), (q_t_kept3_ranges, .inl (cy 1, 60, .inr (.inl t_kept3_ranges))), (q_t_kept3_names, .inl (cy 0, 60, .inl t_kept3_names)), (q_t_kept3_weights, .inl (cy 0, 60, .inl t_kept3_weights)), (q_t_kept3_ties, .inl (cy 0, 3, .inl t_kept3_ties))]) (st' := []) (ce := 0) (sl := 0) 47 [0, 1, 47, 48, 49, 50, 51, 52, 53, 54, 55, 56, 57, 58, 59, 60, 61, 62, 63, 64, 20, 21, 22, 23, 24, 25, 26, 27, 28, 29, 30, 31, 32, 33, 34, 35, 36, 37, 38, 39, 40, 41, 42, 43, 44, 45, 46] (by decide +kernel) (by decide +kernel) rfl rfl ⟨rfl, rfl⟩ ?_
      refine v_aload_n cx dX5_undo_43 rfl 0 rfl ?_
      refine v_iconst (v := 1) cx dX5_undo_44 (by decide) ?_
      refine p_X5_59 (ws' := [(q_t, .inr (5, [.ref q_t_text, .ref q_t_reader, .ref q_t_now, .ref q_t_scores, .ref q_t_trial, .ref q_t_listing, .ref q_t_kept, .int (t_keptCount - 1), .int 1])), (q_t_kept, .inl (cy 4, 4, .inr (.inr (.inr (.inr (ga4 q_t_kept0 q_t_kept1 q_t_kept2 q_t_kept3)))))), (q_t_now, .inr (3, [.int u_1, .ref q_t_now_keys, .ref q_t_now_sizes, .ref q_t_now_qualities, .ref q_t_now_lengths, .ref q_t_now_ranges, .ref q_t_now_names, .ref q_t_now_weights, .ref q_t_now_ties])), (q_t_now_keys, .inl (cy 1, 48, .inr (.inl u_2))), (q_t_now_sizes, .inl (cy 0, 16, .inl u_3)), (q_t_now_qualities, .inl (cy 0, 16, .inl u_4)), (q_t_now_lengths, .inl (cy 0, 6, .inl u_5)), (q_t_now_ranges, .inl (cy 1, 60, .inr (.inl u_6))), (q_t_now_names, .inl (cy 0, 60, .inl u_7)), (q_t_now_weights, .inl (cy 0, 60, .inl u_8)), (q_t_now_ties, .inl (cy 0, 3, .inl u_9)), (q_t_kept0, .inr (3, [.int t_kept0_variants, .ref q_t_kept0_keys, .ref q_t_kept0_sizes, .ref q_t_kept0_qualities, .ref q_t_kept0_lengths, .ref q_t_kept0_ranges, .ref q_t_kept0_names, .ref q_t_kept0_weights, .ref q_t_kept0_ties])), (q_t_kept0_keys, .inl (cy 1, 48, .inr (.inl t_kept0_keys))), (q_t_kept0_sizes, .inl (cy 0, 16, .inl t_kept0_sizes)), (q_t_kept0_qualities, .inl (cy 0, 16, .inl t_kept0_qualities)), (q_t_kept0_lengths, .inl (cy 0, 6, .inl t_kept0_lengths)), (q_t_kept0_ranges, .inl (cy 1, 60, .inr (.inl t_kept0_ranges))), (q_t_kept0_names, .inl (cy 0, 60, .inl t_kept0_names)), (q_t_kept0_weights, .inl (cy 0, 60, .inl t_kept0_weights)), (q_t_kept0_ties, .inl (cy 0, 3, .inl t_kept0_ties)), (q_t_kept1, .inr (3, [.int t_kept1_variants, .ref q_t_kept1_keys, .ref q_t_kept1_sizes, .ref q_t_kept1_qualities, .ref q_t_kept1_lengths, .ref q_t_kept1_ranges, .ref q_t_kept1_names, .ref q_t_kept1_weights, .ref q_t_kept1_ties])), (q_t_kept1_keys, .inl (cy 1, 48, .inr (.inl t_kept1_keys))), (q_t_kept1_sizes, .inl (cy 0, 16, .inl t_kept1_sizes)), (q_t_kept1_qualities, .inl (cy 0, 16, .inl t_kept1_qualities)), (q_t_kept1_lengths, .inl (cy 0, 6, .inl t_kept1_lengths)), (q_t_kept1_ranges, .inl (cy 1, 60, .inr (.inl t_kept1_ranges))), (q_t_kept1_names, .inl (cy 0, 60, .inl t_kept1_names)), (q_t_kept1_weights, .inl (cy 0, 60, .inl t_kept1_weights)), (q_t_kept1_ties, .inl (cy 0, 3, .inl t_kept1_ties)), (q_t_kept2, .inr (3, [.int t_kept2_variants, .ref q_t_kept2_keys, .ref q_t_kept2_sizes, .ref q_t_kept2_qualities, .ref q_t_kept2_lengths, .ref q_t_kept2_ranges, .ref q_t_kept2_names, .ref q_t_kept2_weights, .ref q_t_kept2_ties])), (q_t_kept2_keys, .inl (cy 1, 48, .inr (.inl t_kept2_keys))), (q_t_kept2_sizes, .inl (cy 0, 16, .inl t_kept2_sizes)), (q_t_kept2_qualities, .inl (cy 0, 16, .inl t_kept2_qualities)), (q_t_kept2_lengths, .inl (cy 0, 6, .inl t_kept2_lengths)), (q_t_kept2_ranges, .inl (cy 1, 60, .inr (.inl t_kept2_ranges))), (q_t_kept2_names, .inl (cy 0, 60, .inl t_kept2_names)), (q_t_kept2_weights, .inl (cy 0, 60, .inl t_kept2_weights)), (q_t_kept2_ties, .inl (cy 0, 3, .inl t_kept2_ties)), (q_t_kept3, .inr (3, [.int t_kept3_variants, .ref q_t_kept3_keys, .ref q_t_kept3_sizes, .ref q_t_kept3_qualities, .ref q_t_kept3_lengths, .ref q_t_kept3_ranges, .ref q_t_kept3_names, .ref q_t_kept3_weights, .ref q_t_kept3_ties])), (q_t_kept3_keys, .inl (cy 1, 48, .inr (.inl t_kept3_keys))), (q_t_kept3_sizes, .inl (cy 0, 16, .inl t_kept3_sizes)), (q_t_kept3_qualities, .inl (cy 0, 16, .inl t_kept3_qualities)), (q_t_kept3_lengths, .inl (cy 0, 6, .inl t_kept3_lengths)), (q_t_kept3_ranges, .inl (cy 1, 60, .inr (.inl t_kept3_ranges))), (q_t_kept3_names, .inl (cy 0, 60, .inl t_kept3_names)), (q_t_kept3_weights, .inl (cy 0, 60, .inl t_kept3_weights)), (q_t_kept3_ties, .inl (cy 0, 3, .inl t_kept3_ties))]) cx dX5_undo_45 0 rfl rfl rfl (Nat.le_of_ble_eq_true rfl) rfl ?_
      refine v_aload_n cx dX5_undo_48 rfl 0 rfl ?_
      refine g_X5_55 cx dX5_undo_49 0 rfl rfl ?_
      refine v_x (by decide) (by decide) ?_
      exact v_ireturn cx rfl dX5_undo_52 ⟨_, _, _, _, _, _, _, _, _, _, _, _, rfl, rfl, h⟩
    · have h := h1 hi
      refine v_aald cx dX5_undo_39 1 rfl ⟨hin, h⟩ (by rw [hi]; try rfl) (fun h => ?_)
      refine v_callV (As := [.ref q_t_kept1]) cx (c_X3_copyFrom l g D cy q_t_now q_t_now_keys q_t_now_sizes q_t_now_qualities q_t_now_lengths q_t_now_ranges q_t_now_names q_t_now_weights q_t_now_ties q_t_kept1 q_t_kept1_keys q_t_kept1_sizes q_t_kept1_qualities q_t_kept1_lengths q_t_kept1_ranges q_t_kept1_names q_t_kept1_weights q_t_kept1_ties h) k_X5_229 (by decide) (by decide) rfl rfl (Nat.le_of_ble_eq_true rfl) dX5_undo_40 [2, 3, 4, 5, 6, 7, 8, 9, 10, 20, 21, 22, 23, 24, 25, 26, 27, 28] [0, 1, 11, 12, 13, 14, 15, 16, 17, 18, 19, 29, 30, 31, 32, 33, 34, 35, 36, 37, 38, 39, 40, 41, 42, 43, 44, 45, 46] (by decide) rfl rfl rfl (q0 := 0) rfl rfl (fun v9 w9 hp => ?_)
      refine Exists.elim hp fun u_10 hp => Exists.elim hp fun u_11 hp => Exists.elim hp fun u_12 hp => Exists.elim hp fun u_13 hp => Exists.elim hp fun u_14 hp => Exists.elim hp fun u_15 hp => Exists.elim hp fun u_16 hp => Exists.elim hp fun u_17 hp => Exists.elim hp fun u_18 hp => ?_
      obtain ⟨rfl, rfl, h⟩ := hp
      refine v_afterJ (ws' := [(q_t, .inr (5, [.ref q_t_text, .ref q_t_reader, .ref q_t_now, .ref q_t_scores, .ref q_t_trial, .ref q_t_listing, .ref q_t_kept, .int (t_keptCount - 1), .int t_stale])), (q_t_kept, .inl (cy 4, 4, .inr (.inr (.inr (.inr (ga4 q_t_kept0 q_t_kept1 q_t_kept2 q_t_kept3)))))), (q_t_now, .inr (3, [.int u_10, .ref q_t_now_keys, .ref q_t_now_sizes, .ref q_t_now_qualities, .ref q_t_now_lengths, .ref q_t_now_ranges, .ref q_t_now_names, .ref q_t_now_weights, .ref q_t_now_ties])), (q_t_now_keys, .inl (cy 1, 48, .inr (.inl u_11))), (q_t_now_sizes, .inl (cy 0, 16, .inl u_12)), (q_t_now_qualities, .inl (cy 0, 16, .inl u_13)), (q_t_now_lengths, .inl (cy 0, 6, .inl u_14)), (q_t_now_ranges, .inl (cy 1, 60, .inr (.inl u_15))), (q_t_now_names, .inl (cy 0, 60, .inl u_16)), (q_t_now_weights, .inl (cy 0, 60, .inl u_17)), (q_t_now_ties, .inl (cy 0, 3, .inl u_18)), (q_t_kept0, .inr (3, [.int t_kept0_variants, .ref q_t_kept0_keys, .ref q_t_kept0_sizes, .ref q_t_kept0_qualities, .ref q_t_kept0_lengths, .ref q_t_kept0_ranges, .ref q_t_kept0_names, .ref q_t_kept0_weights, .ref q_t_kept0_ties])), (q_t_kept0_keys, .inl (cy 1, 48, .inr (.inl t_kept0_keys))), (q_t_kept0_sizes, .inl (cy 0, 16, .inl t_kept0_sizes)), (q_t_kept0_qualities, .inl (cy 0, 16, .inl t_kept0_qualities)), (q_t_kept0_lengths, .inl (cy 0, 6, .inl t_kept0_lengths)), (q_t_kept0_ranges, .inl (cy 1, 60, .inr (.inl t_kept0_ranges))), (q_t_kept0_names, .inl (cy 0, 60, .inl t_kept0_names)), (q_t_kept0_weights, .inl (cy 0, 60, .inl t_kept0_weights)), (q_t_kept0_ties, .inl (cy 0, 3, .inl t_kept0_ties)), (q_t_kept1, .inr (3, [.int t_kept1_variants, .ref q_t_kept1_keys, .ref q_t_kept1_sizes, .ref q_t_kept1_qualities, .ref q_t_kept1_lengths, .ref q_t_kept1_ranges, .ref q_t_kept1_names, .ref q_t_kept1_weights, .ref q_t_kept1_ties])), (q_t_kept1_keys, .inl (cy 1, 48, .inr (.inl t_kept1_keys))), (q_t_kept1_sizes, .inl (cy 0, 16, .inl t_kept1_sizes)), (q_t_kept1_qualities, .inl (cy 0, 16, .inl t_kept1_qualities)), (q_t_kept1_lengths, .inl (cy 0, 6, .inl t_kept1_lengths)), (q_t_kept1_ranges, .inl (cy 1, 60, .inr (.inl t_kept1_ranges))), (q_t_kept1_names, .inl (cy 0, 60, .inl t_kept1_names)), (q_t_kept1_weights, .inl (cy 0, 60, .inl t_kept1_weights)), (q_t_kept1_ties, .inl (cy 0, 3, .inl t_kept1_ties)), (q_t_kept2, .inr (3, [.int t_kept2_variants, .ref q_t_kept2_keys, .ref q_t_kept2_sizes, .ref q_t_kept2_qualities, .ref q_t_kept2_lengths, .ref q_t_kept2_ranges, .ref q_t_kept2_names, .ref q_t_kept2_weights, .ref q_t_kept2_ties])), (q_t_kept2_keys, .inl (cy 1, 48, .inr (.inl t_kept2_keys))), (q_t_kept2_sizes, .inl (cy 0, 16, .inl t_kept2_sizes)), (q_t_kept2_qualities, .inl (cy 0, 16, .inl t_kept2_qualities)), (q_t_kept2_lengths, .inl (cy 0, 6, .inl t_kept2_lengths)), (q_t_kept2_ranges, .inl (cy 1, 60, .inr (.inl t_kept2_ranges))), (q_t_kept2_names, .inl (cy 0, 60, .inl t_kept2_names)), (q_t_kept2_weights, .inl (cy 0, 60, .inl t_kept2_weights)), (q_t_kept2_ties, .inl (cy 0, 3, .inl t_kept2_ties)), (q_t_kept3, .inr (3, [.int t_kept3_variants, .ref q_t_kept3_keys, .ref q_t_kept3_sizes, .ref q_t_kept3_qualities, .ref q_t_kept3_lengths, .ref q_t_kept3_ranges, .ref q_t_kept3_names, .ref q_t_kept3_weights, .ref q_t_kept3_ties])), (q_t_kept3_keys, .inl (cy 1, 48, .inr (.inl t_kept3_keys))), (q_t_kept3_sizes, .inl (cy 0, 16, .inl t_kept3_sizes)), (q_t_kept3_qualities, .inl (cy 0, 16, .inl t_kept3_qualities)), (q_t_kept3_lengths, .inl (cy 0, 6, .inl t_kept3_lengths)), (q_t_kept3_ranges, .inl (cy 1, 60, .inr (.inl t_kept3_ranges))), (q_t_kept3_names, .inl (cy 0, 60, .inl t_kept3_names)), (q_t_kept3_weights, .inl (cy 0, 60, .inl t_kept3_weights)), (q_t_kept3_ties, .inl (cy 0, 3, .inl t_kept3_ties))]) (st' := []) (ce := 0) (sl := 0) 47 [0, 1, 47, 48, 49, 50, 51, 52, 53, 54, 55, 11, 12, 13, 14, 15, 16, 17, 18, 19, 56, 57, 58, 59, 60, 61, 62, 63, 64, 29, 30, 31, 32, 33, 34, 35, 36, 37, 38, 39, 40, 41, 42, 43, 44, 45, 46] (by decide +kernel) (by decide +kernel) rfl rfl ⟨rfl, rfl⟩ ?_
      refine v_aload_n cx dX5_undo_43 rfl 0 rfl ?_
      refine v_iconst (v := 1) cx dX5_undo_44 (by decide) ?_
      refine p_X5_59 (ws' := [(q_t, .inr (5, [.ref q_t_text, .ref q_t_reader, .ref q_t_now, .ref q_t_scores, .ref q_t_trial, .ref q_t_listing, .ref q_t_kept, .int (t_keptCount - 1), .int 1])), (q_t_kept, .inl (cy 4, 4, .inr (.inr (.inr (.inr (ga4 q_t_kept0 q_t_kept1 q_t_kept2 q_t_kept3)))))), (q_t_now, .inr (3, [.int u_10, .ref q_t_now_keys, .ref q_t_now_sizes, .ref q_t_now_qualities, .ref q_t_now_lengths, .ref q_t_now_ranges, .ref q_t_now_names, .ref q_t_now_weights, .ref q_t_now_ties])), (q_t_now_keys, .inl (cy 1, 48, .inr (.inl u_11))), (q_t_now_sizes, .inl (cy 0, 16, .inl u_12)), (q_t_now_qualities, .inl (cy 0, 16, .inl u_13)), (q_t_now_lengths, .inl (cy 0, 6, .inl u_14)), (q_t_now_ranges, .inl (cy 1, 60, .inr (.inl u_15))), (q_t_now_names, .inl (cy 0, 60, .inl u_16)), (q_t_now_weights, .inl (cy 0, 60, .inl u_17)), (q_t_now_ties, .inl (cy 0, 3, .inl u_18)), (q_t_kept0, .inr (3, [.int t_kept0_variants, .ref q_t_kept0_keys, .ref q_t_kept0_sizes, .ref q_t_kept0_qualities, .ref q_t_kept0_lengths, .ref q_t_kept0_ranges, .ref q_t_kept0_names, .ref q_t_kept0_weights, .ref q_t_kept0_ties])), (q_t_kept0_keys, .inl (cy 1, 48, .inr (.inl t_kept0_keys))), (q_t_kept0_sizes, .inl (cy 0, 16, .inl t_kept0_sizes)), (q_t_kept0_qualities, .inl (cy 0, 16, .inl t_kept0_qualities)), (q_t_kept0_lengths, .inl (cy 0, 6, .inl t_kept0_lengths)), (q_t_kept0_ranges, .inl (cy 1, 60, .inr (.inl t_kept0_ranges))), (q_t_kept0_names, .inl (cy 0, 60, .inl t_kept0_names)), (q_t_kept0_weights, .inl (cy 0, 60, .inl t_kept0_weights)), (q_t_kept0_ties, .inl (cy 0, 3, .inl t_kept0_ties)), (q_t_kept1, .inr (3, [.int t_kept1_variants, .ref q_t_kept1_keys, .ref q_t_kept1_sizes, .ref q_t_kept1_qualities, .ref q_t_kept1_lengths, .ref q_t_kept1_ranges, .ref q_t_kept1_names, .ref q_t_kept1_weights, .ref q_t_kept1_ties])), (q_t_kept1_keys, .inl (cy 1, 48, .inr (.inl t_kept1_keys))), (q_t_kept1_sizes, .inl (cy 0, 16, .inl t_kept1_sizes)), (q_t_kept1_qualities, .inl (cy 0, 16, .inl t_kept1_qualities)), (q_t_kept1_lengths, .inl (cy 0, 6, .inl t_kept1_lengths)), (q_t_kept1_ranges, .inl (cy 1, 60, .inr (.inl t_kept1_ranges))), (q_t_kept1_names, .inl (cy 0, 60, .inl t_kept1_names)), (q_t_kept1_weights, .inl (cy 0, 60, .inl t_kept1_weights)), (q_t_kept1_ties, .inl (cy 0, 3, .inl t_kept1_ties)), (q_t_kept2, .inr (3, [.int t_kept2_variants, .ref q_t_kept2_keys, .ref q_t_kept2_sizes, .ref q_t_kept2_qualities, .ref q_t_kept2_lengths, .ref q_t_kept2_ranges, .ref q_t_kept2_names, .ref q_t_kept2_weights, .ref q_t_kept2_ties])), (q_t_kept2_keys, .inl (cy 1, 48, .inr (.inl t_kept2_keys))), (q_t_kept2_sizes, .inl (cy 0, 16, .inl t_kept2_sizes)), (q_t_kept2_qualities, .inl (cy 0, 16, .inl t_kept2_qualities)), (q_t_kept2_lengths, .inl (cy 0, 6, .inl t_kept2_lengths)), (q_t_kept2_ranges, .inl (cy 1, 60, .inr (.inl t_kept2_ranges))), (q_t_kept2_names, .inl (cy 0, 60, .inl t_kept2_names)), (q_t_kept2_weights, .inl (cy 0, 60, .inl t_kept2_weights)), (q_t_kept2_ties, .inl (cy 0, 3, .inl t_kept2_ties)), (q_t_kept3, .inr (3, [.int t_kept3_variants, .ref q_t_kept3_keys, .ref q_t_kept3_sizes, .ref q_t_kept3_qualities, .ref q_t_kept3_lengths, .ref q_t_kept3_ranges, .ref q_t_kept3_names, .ref q_t_kept3_weights, .ref q_t_kept3_ties])), (q_t_kept3_keys, .inl (cy 1, 48, .inr (.inl t_kept3_keys))), (q_t_kept3_sizes, .inl (cy 0, 16, .inl t_kept3_sizes)), (q_t_kept3_qualities, .inl (cy 0, 16, .inl t_kept3_qualities)), (q_t_kept3_lengths, .inl (cy 0, 6, .inl t_kept3_lengths)), (q_t_kept3_ranges, .inl (cy 1, 60, .inr (.inl t_kept3_ranges))), (q_t_kept3_names, .inl (cy 0, 60, .inl t_kept3_names)), (q_t_kept3_weights, .inl (cy 0, 60, .inl t_kept3_weights)), (q_t_kept3_ties, .inl (cy 0, 3, .inl t_kept3_ties))]) cx dX5_undo_45 0 rfl rfl rfl (Nat.le_of_ble_eq_true rfl) rfl ?_
      refine v_aload_n cx dX5_undo_48 rfl 0 rfl ?_
      refine g_X5_55 cx dX5_undo_49 0 rfl rfl ?_
      refine v_x (by decide) (by decide) ?_
      exact v_ireturn cx rfl dX5_undo_52 ⟨_, _, _, _, _, _, _, _, _, _, _, _, rfl, rfl, h⟩
    · have h := h2 hi
      refine v_aald cx dX5_undo_39 1 rfl ⟨hin, h⟩ (by rw [hi]; try rfl) (fun h => ?_)
      refine v_callV (As := [.ref q_t_kept2]) cx (c_X3_copyFrom l g D cy q_t_now q_t_now_keys q_t_now_sizes q_t_now_qualities q_t_now_lengths q_t_now_ranges q_t_now_names q_t_now_weights q_t_now_ties q_t_kept2 q_t_kept2_keys q_t_kept2_sizes q_t_kept2_qualities q_t_kept2_lengths q_t_kept2_ranges q_t_kept2_names q_t_kept2_weights q_t_kept2_ties h) k_X5_229 (by decide) (by decide) rfl rfl (Nat.le_of_ble_eq_true rfl) dX5_undo_40 [2, 3, 4, 5, 6, 7, 8, 9, 10, 29, 30, 31, 32, 33, 34, 35, 36, 37] [0, 1, 11, 12, 13, 14, 15, 16, 17, 18, 19, 20, 21, 22, 23, 24, 25, 26, 27, 28, 38, 39, 40, 41, 42, 43, 44, 45, 46] (by decide) rfl rfl rfl (q0 := 0) rfl rfl (fun v9 w9 hp => ?_)
      refine Exists.elim hp fun u_19 hp => Exists.elim hp fun u_20 hp => Exists.elim hp fun u_21 hp => Exists.elim hp fun u_22 hp => Exists.elim hp fun u_23 hp => Exists.elim hp fun u_24 hp => Exists.elim hp fun u_25 hp => Exists.elim hp fun u_26 hp => Exists.elim hp fun u_27 hp => ?_
      obtain ⟨rfl, rfl, h⟩ := hp
      refine v_afterJ (ws' := [(q_t, .inr (5, [.ref q_t_text, .ref q_t_reader, .ref q_t_now, .ref q_t_scores, .ref q_t_trial, .ref q_t_listing, .ref q_t_kept, .int (t_keptCount - 1), .int t_stale])), (q_t_kept, .inl (cy 4, 4, .inr (.inr (.inr (.inr (ga4 q_t_kept0 q_t_kept1 q_t_kept2 q_t_kept3)))))), (q_t_now, .inr (3, [.int u_19, .ref q_t_now_keys, .ref q_t_now_sizes, .ref q_t_now_qualities, .ref q_t_now_lengths, .ref q_t_now_ranges, .ref q_t_now_names, .ref q_t_now_weights, .ref q_t_now_ties])), (q_t_now_keys, .inl (cy 1, 48, .inr (.inl u_20))), (q_t_now_sizes, .inl (cy 0, 16, .inl u_21)), (q_t_now_qualities, .inl (cy 0, 16, .inl u_22)), (q_t_now_lengths, .inl (cy 0, 6, .inl u_23)), (q_t_now_ranges, .inl (cy 1, 60, .inr (.inl u_24))), (q_t_now_names, .inl (cy 0, 60, .inl u_25)), (q_t_now_weights, .inl (cy 0, 60, .inl u_26)), (q_t_now_ties, .inl (cy 0, 3, .inl u_27)), (q_t_kept0, .inr (3, [.int t_kept0_variants, .ref q_t_kept0_keys, .ref q_t_kept0_sizes, .ref q_t_kept0_qualities, .ref q_t_kept0_lengths, .ref q_t_kept0_ranges, .ref q_t_kept0_names, .ref q_t_kept0_weights, .ref q_t_kept0_ties])), (q_t_kept0_keys, .inl (cy 1, 48, .inr (.inl t_kept0_keys))), (q_t_kept0_sizes, .inl (cy 0, 16, .inl t_kept0_sizes)), (q_t_kept0_qualities, .inl (cy 0, 16, .inl t_kept0_qualities)), (q_t_kept0_lengths, .inl (cy 0, 6, .inl t_kept0_lengths)), (q_t_kept0_ranges, .inl (cy 1, 60, .inr (.inl t_kept0_ranges))), (q_t_kept0_names, .inl (cy 0, 60, .inl t_kept0_names)), (q_t_kept0_weights, .inl (cy 0, 60, .inl t_kept0_weights)), (q_t_kept0_ties, .inl (cy 0, 3, .inl t_kept0_ties)), (q_t_kept1, .inr (3, [.int t_kept1_variants, .ref q_t_kept1_keys, .ref q_t_kept1_sizes, .ref q_t_kept1_qualities, .ref q_t_kept1_lengths, .ref q_t_kept1_ranges, .ref q_t_kept1_names, .ref q_t_kept1_weights, .ref q_t_kept1_ties])), (q_t_kept1_keys, .inl (cy 1, 48, .inr (.inl t_kept1_keys))), (q_t_kept1_sizes, .inl (cy 0, 16, .inl t_kept1_sizes)), (q_t_kept1_qualities, .inl (cy 0, 16, .inl t_kept1_qualities)), (q_t_kept1_lengths, .inl (cy 0, 6, .inl t_kept1_lengths)), (q_t_kept1_ranges, .inl (cy 1, 60, .inr (.inl t_kept1_ranges))), (q_t_kept1_names, .inl (cy 0, 60, .inl t_kept1_names)), (q_t_kept1_weights, .inl (cy 0, 60, .inl t_kept1_weights)), (q_t_kept1_ties, .inl (cy 0, 3, .inl t_kept1_ties)), (q_t_kept2, .inr (3, [.int t_kept2_variants, .ref q_t_kept2_keys, .ref q_t_kept2_sizes, .ref q_t_kept2_qualities, .ref q_t_kept2_lengths, .ref q_t_kept2_ranges, .ref q_t_kept2_names, .ref q_t_kept2_weights, .ref q_t_kept2_ties])), (q_t_kept2_keys, .inl (cy 1, 48, .inr (.inl t_kept2_keys))), (q_t_kept2_sizes, .inl (cy 0, 16, .inl t_kept2_sizes)), (q_t_kept2_qualities, .inl (cy 0, 16, .inl t_kept2_qualities)), (q_t_kept2_lengths, .inl (cy 0, 6, .inl t_kept2_lengths)), (q_t_kept2_ranges, .inl (cy 1, 60, .inr (.inl t_kept2_ranges))), (q_t_kept2_names, .inl (cy 0, 60, .inl t_kept2_names)), (q_t_kept2_weights, .inl (cy 0, 60, .inl t_kept2_weights)), (q_t_kept2_ties, .inl (cy 0, 3, .inl t_kept2_ties)), (q_t_kept3, .inr (3, [.int t_kept3_variants, .ref q_t_kept3_keys, .ref q_t_kept3_sizes, .ref q_t_kept3_qualities, .ref q_t_kept3_lengths, .ref q_t_kept3_ranges, .ref q_t_kept3_names, .ref q_t_kept3_weights, .ref q_t_kept3_ties])), (q_t_kept3_keys, .inl (cy 1, 48, .inr (.inl t_kept3_keys))), (q_t_kept3_sizes, .inl (cy 0, 16, .inl t_kept3_sizes)), (q_t_kept3_qualities, .inl (cy 0, 16, .inl t_kept3_qualities)), (q_t_kept3_lengths, .inl (cy 0, 6, .inl t_kept3_lengths)), (q_t_kept3_ranges, .inl (cy 1, 60, .inr (.inl t_kept3_ranges))), (q_t_kept3_names, .inl (cy 0, 60, .inl t_kept3_names)), (q_t_kept3_weights, .inl (cy 0, 60, .inl t_kept3_weights)), (q_t_kept3_ties, .inl (cy 0, 3, .inl t_kept3_ties))]) (st' := []) (ce := 0) (sl := 0) 47 [0, 1, 47, 48, 49, 50, 51, 52, 53, 54, 55, 11, 12, 13, 14, 15, 16, 17, 18, 19, 20, 21, 22, 23, 24, 25, 26, 27, 28, 56, 57, 58, 59, 60, 61, 62, 63, 64, 38, 39, 40, 41, 42, 43, 44, 45, 46] (by decide +kernel) (by decide +kernel) rfl rfl ⟨rfl, rfl⟩ ?_
      refine v_aload_n cx dX5_undo_43 rfl 0 rfl ?_
      refine v_iconst (v := 1) cx dX5_undo_44 (by decide) ?_
      refine p_X5_59 (ws' := [(q_t, .inr (5, [.ref q_t_text, .ref q_t_reader, .ref q_t_now, .ref q_t_scores, .ref q_t_trial, .ref q_t_listing, .ref q_t_kept, .int (t_keptCount - 1), .int 1])), (q_t_kept, .inl (cy 4, 4, .inr (.inr (.inr (.inr (ga4 q_t_kept0 q_t_kept1 q_t_kept2 q_t_kept3)))))), (q_t_now, .inr (3, [.int u_19, .ref q_t_now_keys, .ref q_t_now_sizes, .ref q_t_now_qualities, .ref q_t_now_lengths, .ref q_t_now_ranges, .ref q_t_now_names, .ref q_t_now_weights, .ref q_t_now_ties])), (q_t_now_keys, .inl (cy 1, 48, .inr (.inl u_20))), (q_t_now_sizes, .inl (cy 0, 16, .inl u_21)), (q_t_now_qualities, .inl (cy 0, 16, .inl u_22)), (q_t_now_lengths, .inl (cy 0, 6, .inl u_23)), (q_t_now_ranges, .inl (cy 1, 60, .inr (.inl u_24))), (q_t_now_names, .inl (cy 0, 60, .inl u_25)), (q_t_now_weights, .inl (cy 0, 60, .inl u_26)), (q_t_now_ties, .inl (cy 0, 3, .inl u_27)), (q_t_kept0, .inr (3, [.int t_kept0_variants, .ref q_t_kept0_keys, .ref q_t_kept0_sizes, .ref q_t_kept0_qualities, .ref q_t_kept0_lengths, .ref q_t_kept0_ranges, .ref q_t_kept0_names, .ref q_t_kept0_weights, .ref q_t_kept0_ties])), (q_t_kept0_keys, .inl (cy 1, 48, .inr (.inl t_kept0_keys))), (q_t_kept0_sizes, .inl (cy 0, 16, .inl t_kept0_sizes)), (q_t_kept0_qualities, .inl (cy 0, 16, .inl t_kept0_qualities)), (q_t_kept0_lengths, .inl (cy 0, 6, .inl t_kept0_lengths)), (q_t_kept0_ranges, .inl (cy 1, 60, .inr (.inl t_kept0_ranges))), (q_t_kept0_names, .inl (cy 0, 60, .inl t_kept0_names)), (q_t_kept0_weights, .inl (cy 0, 60, .inl t_kept0_weights)), (q_t_kept0_ties, .inl (cy 0, 3, .inl t_kept0_ties)), (q_t_kept1, .inr (3, [.int t_kept1_variants, .ref q_t_kept1_keys, .ref q_t_kept1_sizes, .ref q_t_kept1_qualities, .ref q_t_kept1_lengths, .ref q_t_kept1_ranges, .ref q_t_kept1_names, .ref q_t_kept1_weights, .ref q_t_kept1_ties])), (q_t_kept1_keys, .inl (cy 1, 48, .inr (.inl t_kept1_keys))), (q_t_kept1_sizes, .inl (cy 0, 16, .inl t_kept1_sizes)), (q_t_kept1_qualities, .inl (cy 0, 16, .inl t_kept1_qualities)), (q_t_kept1_lengths, .inl (cy 0, 6, .inl t_kept1_lengths)), (q_t_kept1_ranges, .inl (cy 1, 60, .inr (.inl t_kept1_ranges))), (q_t_kept1_names, .inl (cy 0, 60, .inl t_kept1_names)), (q_t_kept1_weights, .inl (cy 0, 60, .inl t_kept1_weights)), (q_t_kept1_ties, .inl (cy 0, 3, .inl t_kept1_ties)), (q_t_kept2, .inr (3, [.int t_kept2_variants, .ref q_t_kept2_keys, .ref q_t_kept2_sizes, .ref q_t_kept2_qualities, .ref q_t_kept2_lengths, .ref q_t_kept2_ranges, .ref q_t_kept2_names, .ref q_t_kept2_weights, .ref q_t_kept2_ties])), (q_t_kept2_keys, .inl (cy 1, 48, .inr (.inl t_kept2_keys))), (q_t_kept2_sizes, .inl (cy 0, 16, .inl t_kept2_sizes)), (q_t_kept2_qualities, .inl (cy 0, 16, .inl t_kept2_qualities)), (q_t_kept2_lengths, .inl (cy 0, 6, .inl t_kept2_lengths)), (q_t_kept2_ranges, .inl (cy 1, 60, .inr (.inl t_kept2_ranges))), (q_t_kept2_names, .inl (cy 0, 60, .inl t_kept2_names)), (q_t_kept2_weights, .inl (cy 0, 60, .inl t_kept2_weights)), (q_t_kept2_ties, .inl (cy 0, 3, .inl t_kept2_ties)), (q_t_kept3, .inr (3, [.int t_kept3_variants, .ref q_t_kept3_keys, .ref q_t_kept3_sizes, .ref q_t_kept3_qualities, .ref q_t_kept3_lengths, .ref q_t_kept3_ranges, .ref q_t_kept3_names, .ref q_t_kept3_weights, .ref q_t_kept3_ties])), (q_t_kept3_keys, .inl (cy 1, 48, .inr (.inl t_kept3_keys))), (q_t_kept3_sizes, .inl (cy 0, 16, .inl t_kept3_sizes)), (q_t_kept3_qualities, .inl (cy 0, 16, .inl t_kept3_qualities)), (q_t_kept3_lengths, .inl (cy 0, 6, .inl t_kept3_lengths)), (q_t_kept3_ranges, .inl (cy 1, 60, .inr (.inl t_kept3_ranges))), (q_t_kept3_names, .inl (cy 0, 60, .inl t_kept3_names)), (q_t_kept3_weights, .inl (cy 0, 60, .inl t_kept3_weights)), (q_t_kept3_ties, .inl (cy 0, 3, .inl t_kept3_ties))]) cx dX5_undo_45 0 rfl rfl rfl (Nat.le_of_ble_eq_true rfl) rfl ?_
      refine v_aload_n cx dX5_undo_48 rfl 0 rfl ?_
      refine g_X5_55 cx dX5_undo_49 0 rfl rfl ?_
      refine v_x (by decide) (by decide) ?_
      exact v_ireturn cx rfl dX5_undo_52 ⟨_, _, _, _, _, _, _, _, _, _, _, _, rfl, rfl, h⟩
    · have h := h3 hi
      refine v_aald cx dX5_undo_39 1 rfl ⟨hin, h⟩ (by rw [hi]; try rfl) (fun h => ?_)
      refine v_callV (As := [.ref q_t_kept3]) cx (c_X3_copyFrom l g D cy q_t_now q_t_now_keys q_t_now_sizes q_t_now_qualities q_t_now_lengths q_t_now_ranges q_t_now_names q_t_now_weights q_t_now_ties q_t_kept3 q_t_kept3_keys q_t_kept3_sizes q_t_kept3_qualities q_t_kept3_lengths q_t_kept3_ranges q_t_kept3_names q_t_kept3_weights q_t_kept3_ties h) k_X5_229 (by decide) (by decide) rfl rfl (Nat.le_of_ble_eq_true rfl) dX5_undo_40 [2, 3, 4, 5, 6, 7, 8, 9, 10, 38, 39, 40, 41, 42, 43, 44, 45, 46] [0, 1, 11, 12, 13, 14, 15, 16, 17, 18, 19, 20, 21, 22, 23, 24, 25, 26, 27, 28, 29, 30, 31, 32, 33, 34, 35, 36, 37] (by decide) rfl rfl rfl (q0 := 0) rfl rfl (fun v9 w9 hp => ?_)
      refine Exists.elim hp fun u_28 hp => Exists.elim hp fun u_29 hp => Exists.elim hp fun u_30 hp => Exists.elim hp fun u_31 hp => Exists.elim hp fun u_32 hp => Exists.elim hp fun u_33 hp => Exists.elim hp fun u_34 hp => Exists.elim hp fun u_35 hp => Exists.elim hp fun u_36 hp => ?_
      obtain ⟨rfl, rfl, h⟩ := hp
      refine v_afterJ (ws' := [(q_t, .inr (5, [.ref q_t_text, .ref q_t_reader, .ref q_t_now, .ref q_t_scores, .ref q_t_trial, .ref q_t_listing, .ref q_t_kept, .int (t_keptCount - 1), .int t_stale])), (q_t_kept, .inl (cy 4, 4, .inr (.inr (.inr (.inr (ga4 q_t_kept0 q_t_kept1 q_t_kept2 q_t_kept3)))))), (q_t_now, .inr (3, [.int u_28, .ref q_t_now_keys, .ref q_t_now_sizes, .ref q_t_now_qualities, .ref q_t_now_lengths, .ref q_t_now_ranges, .ref q_t_now_names, .ref q_t_now_weights, .ref q_t_now_ties])), (q_t_now_keys, .inl (cy 1, 48, .inr (.inl u_29))), (q_t_now_sizes, .inl (cy 0, 16, .inl u_30)), (q_t_now_qualities, .inl (cy 0, 16, .inl u_31)), (q_t_now_lengths, .inl (cy 0, 6, .inl u_32)), (q_t_now_ranges, .inl (cy 1, 60, .inr (.inl u_33))), (q_t_now_names, .inl (cy 0, 60, .inl u_34)), (q_t_now_weights, .inl (cy 0, 60, .inl u_35)), (q_t_now_ties, .inl (cy 0, 3, .inl u_36)), (q_t_kept0, .inr (3, [.int t_kept0_variants, .ref q_t_kept0_keys, .ref q_t_kept0_sizes, .ref q_t_kept0_qualities, .ref q_t_kept0_lengths, .ref q_t_kept0_ranges, .ref q_t_kept0_names, .ref q_t_kept0_weights, .ref q_t_kept0_ties])), (q_t_kept0_keys, .inl (cy 1, 48, .inr (.inl t_kept0_keys))), (q_t_kept0_sizes, .inl (cy 0, 16, .inl t_kept0_sizes)), (q_t_kept0_qualities, .inl (cy 0, 16, .inl t_kept0_qualities)), (q_t_kept0_lengths, .inl (cy 0, 6, .inl t_kept0_lengths)), (q_t_kept0_ranges, .inl (cy 1, 60, .inr (.inl t_kept0_ranges))), (q_t_kept0_names, .inl (cy 0, 60, .inl t_kept0_names)), (q_t_kept0_weights, .inl (cy 0, 60, .inl t_kept0_weights)), (q_t_kept0_ties, .inl (cy 0, 3, .inl t_kept0_ties)), (q_t_kept1, .inr (3, [.int t_kept1_variants, .ref q_t_kept1_keys, .ref q_t_kept1_sizes, .ref q_t_kept1_qualities, .ref q_t_kept1_lengths, .ref q_t_kept1_ranges, .ref q_t_kept1_names, .ref q_t_kept1_weights, .ref q_t_kept1_ties])), (q_t_kept1_keys, .inl (cy 1, 48, .inr (.inl t_kept1_keys))), (q_t_kept1_sizes, .inl (cy 0, 16, .inl t_kept1_sizes)), (q_t_kept1_qualities, .inl (cy 0, 16, .inl t_kept1_qualities)), (q_t_kept1_lengths, .inl (cy 0, 6, .inl t_kept1_lengths)), (q_t_kept1_ranges, .inl (cy 1, 60, .inr (.inl t_kept1_ranges))), (q_t_kept1_names, .inl (cy 0, 60, .inl t_kept1_names)), (q_t_kept1_weights, .inl (cy 0, 60, .inl t_kept1_weights)), (q_t_kept1_ties, .inl (cy 0, 3, .inl t_kept1_ties)), (q_t_kept2, .inr (3, [.int t_kept2_variants, .ref q_t_kept2_keys, .ref q_t_kept2_sizes, .ref q_t_kept2_qualities, .ref q_t_kept2_lengths, .ref q_t_kept2_ranges, .ref q_t_kept2_names, .ref q_t_kept2_weights, .ref q_t_kept2_ties])), (q_t_kept2_keys, .inl (cy 1, 48, .inr (.inl t_kept2_keys))), (q_t_kept2_sizes, .inl (cy 0, 16, .inl t_kept2_sizes)), (q_t_kept2_qualities, .inl (cy 0, 16, .inl t_kept2_qualities)), (q_t_kept2_lengths, .inl (cy 0, 6, .inl t_kept2_lengths)), (q_t_kept2_ranges, .inl (cy 1, 60, .inr (.inl t_kept2_ranges))), (q_t_kept2_names, .inl (cy 0, 60, .inl t_kept2_names)), (q_t_kept2_weights, .inl (cy 0, 60, .inl t_kept2_weights)), (q_t_kept2_ties, .inl (cy 0, 3, .inl t_kept2_ties)), (q_t_kept3, .inr (3, [.int t_kept3_variants, .ref q_t_kept3_keys, .ref q_t_kept3_sizes, .ref q_t_kept3_qualities, .ref q_t_kept3_lengths, .ref q_t_kept3_ranges, .ref q_t_kept3_names, .ref q_t_kept3_weights, .ref q_t_kept3_ties])), (q_t_kept3_keys, .inl (cy 1, 48, .inr (.inl t_kept3_keys))), (q_t_kept3_sizes, .inl (cy 0, 16, .inl t_kept3_sizes)), (q_t_kept3_qualities, .inl (cy 0, 16, .inl t_kept3_qualities)), (q_t_kept3_lengths, .inl (cy 0, 6, .inl t_kept3_lengths)), (q_t_kept3_ranges, .inl (cy 1, 60, .inr (.inl t_kept3_ranges))), (q_t_kept3_names, .inl (cy 0, 60, .inl t_kept3_names)), (q_t_kept3_weights, .inl (cy 0, 60, .inl t_kept3_weights)), (q_t_kept3_ties, .inl (cy 0, 3, .inl t_kept3_ties))]) (st' := []) (ce := 0) (sl := 0) 47 [0, 1, 47, 48, 49, 50, 51, 52, 53, 54, 55, 11, 12, 13, 14, 15, 16, 17, 18, 19, 20, 21, 22, 23, 24, 25, 26, 27, 28, 29, 30, 31, 32, 33, 34, 35, 36, 37, 56, 57, 58, 59, 60, 61, 62, 63, 64] (by decide +kernel) (by decide +kernel) rfl rfl ⟨rfl, rfl⟩ ?_
      refine v_aload_n cx dX5_undo_43 rfl 0 rfl ?_
      refine v_iconst (v := 1) cx dX5_undo_44 (by decide) ?_
      refine p_X5_59 (ws' := [(q_t, .inr (5, [.ref q_t_text, .ref q_t_reader, .ref q_t_now, .ref q_t_scores, .ref q_t_trial, .ref q_t_listing, .ref q_t_kept, .int (t_keptCount - 1), .int 1])), (q_t_kept, .inl (cy 4, 4, .inr (.inr (.inr (.inr (ga4 q_t_kept0 q_t_kept1 q_t_kept2 q_t_kept3)))))), (q_t_now, .inr (3, [.int u_28, .ref q_t_now_keys, .ref q_t_now_sizes, .ref q_t_now_qualities, .ref q_t_now_lengths, .ref q_t_now_ranges, .ref q_t_now_names, .ref q_t_now_weights, .ref q_t_now_ties])), (q_t_now_keys, .inl (cy 1, 48, .inr (.inl u_29))), (q_t_now_sizes, .inl (cy 0, 16, .inl u_30)), (q_t_now_qualities, .inl (cy 0, 16, .inl u_31)), (q_t_now_lengths, .inl (cy 0, 6, .inl u_32)), (q_t_now_ranges, .inl (cy 1, 60, .inr (.inl u_33))), (q_t_now_names, .inl (cy 0, 60, .inl u_34)), (q_t_now_weights, .inl (cy 0, 60, .inl u_35)), (q_t_now_ties, .inl (cy 0, 3, .inl u_36)), (q_t_kept0, .inr (3, [.int t_kept0_variants, .ref q_t_kept0_keys, .ref q_t_kept0_sizes, .ref q_t_kept0_qualities, .ref q_t_kept0_lengths, .ref q_t_kept0_ranges, .ref q_t_kept0_names, .ref q_t_kept0_weights, .ref q_t_kept0_ties])), (q_t_kept0_keys, .inl (cy 1, 48, .inr (.inl t_kept0_keys))), (q_t_kept0_sizes, .inl (cy 0, 16, .inl t_kept0_sizes)), (q_t_kept0_qualities, .inl (cy 0, 16, .inl t_kept0_qualities)), (q_t_kept0_lengths, .inl (cy 0, 6, .inl t_kept0_lengths)), (q_t_kept0_ranges, .inl (cy 1, 60, .inr (.inl t_kept0_ranges))), (q_t_kept0_names, .inl (cy 0, 60, .inl t_kept0_names)), (q_t_kept0_weights, .inl (cy 0, 60, .inl t_kept0_weights)), (q_t_kept0_ties, .inl (cy 0, 3, .inl t_kept0_ties)), (q_t_kept1, .inr (3, [.int t_kept1_variants, .ref q_t_kept1_keys, .ref q_t_kept1_sizes, .ref q_t_kept1_qualities, .ref q_t_kept1_lengths, .ref q_t_kept1_ranges, .ref q_t_kept1_names, .ref q_t_kept1_weights, .ref q_t_kept1_ties])), (q_t_kept1_keys, .inl (cy 1, 48, .inr (.inl t_kept1_keys))), (q_t_kept1_sizes, .inl (cy 0, 16, .inl t_kept1_sizes)), (q_t_kept1_qualities, .inl (cy 0, 16, .inl t_kept1_qualities)), (q_t_kept1_lengths, .inl (cy 0, 6, .inl t_kept1_lengths)), (q_t_kept1_ranges, .inl (cy 1, 60, .inr (.inl t_kept1_ranges))), (q_t_kept1_names, .inl (cy 0, 60, .inl t_kept1_names)), (q_t_kept1_weights, .inl (cy 0, 60, .inl t_kept1_weights)), (q_t_kept1_ties, .inl (cy 0, 3, .inl t_kept1_ties)), (q_t_kept2, .inr (3, [.int t_kept2_variants, .ref q_t_kept2_keys, .ref q_t_kept2_sizes, .ref q_t_kept2_qualities, .ref q_t_kept2_lengths, .ref q_t_kept2_ranges, .ref q_t_kept2_names, .ref q_t_kept2_weights, .ref q_t_kept2_ties])), (q_t_kept2_keys, .inl (cy 1, 48, .inr (.inl t_kept2_keys))), (q_t_kept2_sizes, .inl (cy 0, 16, .inl t_kept2_sizes)), (q_t_kept2_qualities, .inl (cy 0, 16, .inl t_kept2_qualities)), (q_t_kept2_lengths, .inl (cy 0, 6, .inl t_kept2_lengths)), (q_t_kept2_ranges, .inl (cy 1, 60, .inr (.inl t_kept2_ranges))), (q_t_kept2_names, .inl (cy 0, 60, .inl t_kept2_names)), (q_t_kept2_weights, .inl (cy 0, 60, .inl t_kept2_weights)), (q_t_kept2_ties, .inl (cy 0, 3, .inl t_kept2_ties)), (q_t_kept3, .inr (3, [.int t_kept3_variants, .ref q_t_kept3_keys, .ref q_t_kept3_sizes, .ref q_t_kept3_qualities, .ref q_t_kept3_lengths, .ref q_t_kept3_ranges, .ref q_t_kept3_names, .ref q_t_kept3_weights, .ref q_t_kept3_ties])), (q_t_kept3_keys, .inl (cy 1, 48, .inr (.inl t_kept3_keys))), (q_t_kept3_sizes, .inl (cy 0, 16, .inl t_kept3_sizes)), (q_t_kept3_qualities, .inl (cy 0, 16, .inl t_kept3_qualities)), (q_t_kept3_lengths, .inl (cy 0, 6, .inl t_kept3_lengths)), (q_t_kept3_ranges, .inl (cy 1, 60, .inr (.inl t_kept3_ranges))), (q_t_kept3_names, .inl (cy 0, 60, .inl t_kept3_names)), (q_t_kept3_weights, .inl (cy 0, 60, .inl t_kept3_weights)), (q_t_kept3_ties, .inl (cy 0, 3, .inl t_kept3_ties))]) cx dX5_undo_45 0 rfl rfl rfl (Nat.le_of_ble_eq_true rfl) rfl ?_
      refine v_aload_n cx dX5_undo_48 rfl 0 rfl ?_
      refine g_X5_55 cx dX5_undo_49 0 rfl rfl ?_
      refine v_x (by decide) (by decide) ?_
      exact v_ireturn cx rfl dX5_undo_52 ⟨_, _, _, _, _, _, _, _, _, _, _, _, rfl, rfl, h⟩
  · exact v_throwS (text := "nothing is saved") cx hexc hl kT_X5_73 (by decide +kernel) dX5_undo_7 dX5_undo_10 dX5_undo_11 dX5_undo_13 dX5_undo_16 (by decide) (by decide) ⟨rfl, _, _, _, _, _, _, _, _, _, _, _, rfl, h⟩
abbrev rm_X5_mix : Room := { frames := 0, cells := 0, slots := 0, locals := 0 }
set_option maxHeartbeats 4000000 in
set_option maxRecDepth 100000 in
theorem c_X5_mix (l : Launch) (g : gT) (D : va_G) (cy : Nat → ClassId) {x0 : Int64} {x2 : Int32} {N : Nat} {Q : Int64 → Prop} (h : p_X5_mix N x0 x2 Q) : UC l yX5_mix cX5_mix 3 (some .long) rm_X5_mix g D cy [.long x0, .int x2] [] (fun v w => w = [] ∧ ∃ r : Int64, v = some (.long r) ∧ Q r) := by
  refine UC_of (by decide +kernel) (Nat.le_of_ble_eq_true rfl) [(0, .long x0), (2, .int x2)] rfl (fun p e s m args below meth c A cx => ?_)
  unfold p_X5_mix at h
  refine v_ldc2 cx dX5_mix_0 wKL_X5_285 ?_
  refine v_lload_n cx dX5_mix_3 rfl 0 rfl ?_
  refine v_lmul cx dX5_mix_4 ?_
  refine v_iload_n cx dX5_mix_5 rfl 1 rfl ?_
  refine v_i2l cx dX5_mix_6 ?_
  refine v_ladd cx dX5_mix_7 ?_
  exact v_lreturn cx dX5_mix_8 ⟨rfl, _, rfl, h⟩
abbrev rm_X5_mixVariants : Room := { frames := 3, cells := 0, slots := 0, locals := 69 }
set_option maxHeartbeats 4000000 in
set_option maxRecDepth 100000 in
theorem w_X5_mixVariants_20 {p : Program} {l : Launch} {e : Env} {s : State} {m : MethodId} {args : Array Value} {below : List Frame} {meth : Method} {c : Code} {Q9 : State → Prop} {mn : String} {Ts : List Cond} {D : va_G} {cy : Nat → ClassId} {g : gT} {A : Nat → Prop} (cx : vC p s m args meth c cX5_mixVariants 7 (some .long) RX5 mn Ts D cy g A) (q_t q_t_text q_t_reader q_t_now q_t_scores q_t_trial q_t_listing q_t_kept q_t_now_keys q_t_now_sizes q_t_now_qualities q_t_now_lengths q_t_now_ranges q_t_now_names q_t_now_weights q_t_now_ties q_t_scores_places q_t_scores_weights q_t_scores_scores q_t_scores_ranks q_t_scores_order q_t_scores_tieRanks q_t_listing_order q_t_listing_places q_t_listing_bytes : Nat) {x1 : Int64} {x5 : Int32} {t_keptCount : Int32} {t_stale : Int32} {t_now_variants : Int32} {t_now_sizes : Nat → Int32} {t_now_qualities : Nat → Int32} {t_scores_rankedCount : Int32} {t_scores_scores : Nat → Int32} {t_scores_weights : Nat → Int32} {t_scores_ranks : Nat → Int32} {t_listing_length : Int32} {t_listing_places : Nat → Int32} {t_now_keys : Nat → Int64} {N : Nat} {K46 : Int64 → Int32 → Prop} (hK46 : ∀ (x3 : Int64) (x6 : Int32), K46 x3 x6 → vV p l e rm_X5_mixVariants s m args below meth c Q9 7 D A 0 0 [(q_t, .inr (5, [.ref q_t_text, .ref q_t_reader, .ref q_t_now, .ref q_t_scores, .ref q_t_trial, .ref q_t_listing, .ref q_t_kept, .int t_keptCount, .int t_stale])), (q_t_now, .inr (3, [.int t_now_variants, .ref q_t_now_keys, .ref q_t_now_sizes, .ref q_t_now_qualities, .ref q_t_now_lengths, .ref q_t_now_ranges, .ref q_t_now_names, .ref q_t_now_weights, .ref q_t_now_ties])), (q_t_now_sizes, .inl (cy 0, 16, .inl t_now_sizes)), (q_t_now_qualities, .inl (cy 0, 16, .inl t_now_qualities)), (q_t_scores, .inr (2, [.ref q_t_now, .ref q_t_scores_places, .ref q_t_scores_weights, .ref q_t_scores_scores, .ref q_t_scores_ranks, .ref q_t_scores_order, .ref q_t_scores_tieRanks, .int t_scores_rankedCount])), (q_t_scores_scores, .inl (cy 0, 16, .inl t_scores_scores)), (q_t_scores_weights, .inl (cy 0, 96, .inl t_scores_weights)), (q_t_scores_ranks, .inl (cy 0, 16, .inl t_scores_ranks)), (q_t_listing, .inr (0, [.ref q_t_now, .ref q_t_listing_order, .ref q_t_listing_places, .ref q_t_listing_bytes, .int t_listing_length])), (q_t_listing_places, .inl (cy 0, 16, .inl t_listing_places)), (q_t_now_keys, .inl (cy 1, 48, .inr (.inl t_now_keys)))] 46 [(0, .ref q_t), (1, .long x1), (3, .long x3), (5, .int x5), (6, .int x6)] []) : ∀ (n : Nat) (x3 : Int64) (x6 : Int32), p_X5_mixVariants_20 N x1 x5 t_keptCount t_stale t_now_variants t_now_sizes t_now_qualities t_scores_rankedCount t_scores_scores t_scores_weights t_scores_ranks t_listing_length t_listing_places t_now_keys K46 n x3 x6 → vV p l e rm_X5_mixVariants s m args below meth c Q9 7 D A 0 0 [(q_t, .inr (5, [.ref q_t_text, .ref q_t_reader, .ref q_t_now, .ref q_t_scores, .ref q_t_trial, .ref q_t_listing, .ref q_t_kept, .int t_keptCount, .int t_stale])), (q_t_now, .inr (3, [.int t_now_variants, .ref q_t_now_keys, .ref q_t_now_sizes, .ref q_t_now_qualities, .ref q_t_now_lengths, .ref q_t_now_ranges, .ref q_t_now_names, .ref q_t_now_weights, .ref q_t_now_ties])), (q_t_now_sizes, .inl (cy 0, 16, .inl t_now_sizes)), (q_t_now_qualities, .inl (cy 0, 16, .inl t_now_qualities)), (q_t_scores, .inr (2, [.ref q_t_now, .ref q_t_scores_places, .ref q_t_scores_weights, .ref q_t_scores_scores, .ref q_t_scores_ranks, .ref q_t_scores_order, .ref q_t_scores_tieRanks, .int t_scores_rankedCount])), (q_t_scores_scores, .inl (cy 0, 16, .inl t_scores_scores)), (q_t_scores_weights, .inl (cy 0, 96, .inl t_scores_weights)), (q_t_scores_ranks, .inl (cy 0, 16, .inl t_scores_ranks)), (q_t_listing, .inr (0, [.ref q_t_now, .ref q_t_listing_order, .ref q_t_listing_places, .ref q_t_listing_bytes, .int t_listing_length])), (q_t_listing_places, .inl (cy 0, 16, .inl t_listing_places)), (q_t_now_keys, .inl (cy 1, 48, .inr (.inl t_now_keys)))] 20 [(0, .ref q_t), (1, .long x1), (3, .long x3), (5, .int x5), (6, .int x6)] [] := by
  intro n
  induction n with
  | zero => intro x3 x6 h; exact False.elim h
  | succ n ih =>
    intro x3 x6 h
    unfold p_X5_mixVariants_20 at h
    refine v_iload cx dX5_mixVariants_20 4 rfl ?_
    refine v_bipush (v := 6) cx dX5_mixVariants_22 (by decide) ?_
    refine v_icmp_gt (tgt := 46) cx dX5_mixVariants_24 (by decide) h (fun h => ?_) (fun h => ?_)
    · refine v_lv (lv' := [(0, .ref q_t), (1, .long x1), (3, .long x3), (5, .int x5), (6, .int x6)]) [0, 1, 2, 3, 4] rfl ?_
      exact hK46 _ _ h
    · refine v_lload_n cx dX5_mixVariants_27 rfl 2 rfl ?_
      refine v_aload_n cx dX5_mixVariants_28 rfl 0 rfl ?_
      refine v_iload cx dX5_mixVariants_29 3 rfl ?_
      refine v_iload cx dX5_mixVariants_31 4 rfl ?_
      refine v_callVpi (As := [.int x5, .int x6]) cx (c_X5_variantValue l g D cy q_t q_t_text q_t_reader q_t_now q_t_scores q_t_trial q_t_listing q_t_kept q_t_now_keys q_t_now_sizes q_t_now_qualities q_t_now_lengths q_t_now_ranges q_t_now_names q_t_now_weights q_t_now_ties q_t_scores_places q_t_scores_weights q_t_scores_scores q_t_scores_ranks q_t_scores_order q_t_scores_tieRanks q_t_listing_order q_t_listing_places q_t_listing_bytes h) k_X5_184 (by decide) ⟨rfl, rfl⟩ (by decide) rfl rfl (Nat.le_of_ble_eq_true rfl) dX5_mixVariants_33 [0, 1, 2, 3, 4, 5, 6, 7, 8, 9, 10] [] (by decide) (vj_all 11 rfl (by decide +kernel)) rfl rfl rfl (q0 := 0) rfl rfl (fun r_1 h => ?_)
      refine v_callSpl (As := [.long x3, .int r_1]) cx (c_X5_mix l g D cy  h) k_X5_234 (by decide) ⟨rfl, rfl⟩ (by decide) rfl rfl (Nat.le_of_ble_eq_true rfl) dX5_mixVariants_36 [] [0, 1, 2, 3, 4, 5, 6, 7, 8, 9, 10] (by decide) (vj_all 11 rfl (by decide +kernel)) rfl rfl rfl (fun r_2 h => ?_)
      refine v_lstore_n (lv' := [(3, .long r_2), (0, .ref q_t), (1, .long x1), (5, .int x5), (6, .int x6)]) cx dX5_mixVariants_39 rfl (by decide) rfl ?_
      refine v_iinc (v := x6 + 1) (k0 := 4) (lv' := [(6, .int (x6 + 1)), (3, .long r_2), (0, .ref q_t), (1, .long x1), (5, .int x5)]) cx dX5_mixVariants_40 rfl rfl (by decide) rfl ?_
      refine v_goto (tgt := 20) cx dX5_mixVariants_43 (by decide) ?_
      refine v_lv (lv' := [(0, .ref q_t), (1, .long x1), (3, .long r_2), (5, .int x5), (6, .int (x6 + 1))]) [2, 3, 1, 4, 0] rfl ?_
      exact ih _ _ h
set_option maxHeartbeats 4000000 in
set_option maxRecDepth 100000 in
theorem w_X5_mixVariants_49 {p : Program} {l : Launch} {e : Env} {s : State} {m : MethodId} {args : Array Value} {below : List Frame} {meth : Method} {c : Code} {Q9 : State → Prop} {mn : String} {Ts : List Cond} {D : va_G} {cy : Nat → ClassId} {g : gT} {A : Nat → Prop} (cx : vC p s m args meth c cX5_mixVariants 7 (some .long) RX5 mn Ts D cy g A) (q_t q_t_text q_t_reader q_t_now q_t_scores q_t_trial q_t_listing q_t_kept q_t_now_keys q_t_now_sizes q_t_now_qualities q_t_now_lengths q_t_now_ranges q_t_now_names q_t_now_weights q_t_now_ties q_t_scores_places q_t_scores_weights q_t_scores_scores q_t_scores_ranks q_t_scores_order q_t_scores_tieRanks q_t_listing_order q_t_listing_places q_t_listing_bytes : Nat) {x1 : Int64} {x5 : Int32} {t_keptCount : Int32} {t_stale : Int32} {t_now_variants : Int32} {t_now_sizes : Nat → Int32} {t_now_qualities : Nat → Int32} {t_scores_rankedCount : Int32} {t_scores_scores : Nat → Int32} {t_scores_weights : Nat → Int32} {t_scores_ranks : Nat → Int32} {t_listing_length : Int32} {t_listing_places : Nat → Int32} {t_now_keys : Nat → Int64} {N : Nat} {K82 : Int64 → Int32 → Prop} (hK82 : ∀ (x3 : Int64) (x6 : Int32), K82 x3 x6 → vV p l e rm_X5_mixVariants s m args below meth c Q9 7 D A 0 0 [(q_t, .inr (5, [.ref q_t_text, .ref q_t_reader, .ref q_t_now, .ref q_t_scores, .ref q_t_trial, .ref q_t_listing, .ref q_t_kept, .int t_keptCount, .int t_stale])), (q_t_now, .inr (3, [.int t_now_variants, .ref q_t_now_keys, .ref q_t_now_sizes, .ref q_t_now_qualities, .ref q_t_now_lengths, .ref q_t_now_ranges, .ref q_t_now_names, .ref q_t_now_weights, .ref q_t_now_ties])), (q_t_now_sizes, .inl (cy 0, 16, .inl t_now_sizes)), (q_t_now_qualities, .inl (cy 0, 16, .inl t_now_qualities)), (q_t_scores, .inr (2, [.ref q_t_now, .ref q_t_scores_places, .ref q_t_scores_weights, .ref q_t_scores_scores, .ref q_t_scores_ranks, .ref q_t_scores_order, .ref q_t_scores_tieRanks, .int t_scores_rankedCount])), (q_t_scores_scores, .inl (cy 0, 16, .inl t_scores_scores)), (q_t_scores_weights, .inl (cy 0, 96, .inl t_scores_weights)), (q_t_scores_ranks, .inl (cy 0, 16, .inl t_scores_ranks)), (q_t_listing, .inr (0, [.ref q_t_now, .ref q_t_listing_order, .ref q_t_listing_places, .ref q_t_listing_bytes, .int t_listing_length])), (q_t_listing_places, .inl (cy 0, 16, .inl t_listing_places)), (q_t_now_keys, .inl (cy 1, 48, .inr (.inl t_now_keys)))] 82 [(0, .ref q_t), (1, .long x1), (3, .long x3), (5, .int x5), (6, .int x6)] []) : ∀ (n : Nat) (x3 : Int64) (x6 : Int32), p_X5_mixVariants_49 N x1 x5 t_keptCount t_stale t_now_variants t_now_sizes t_now_qualities t_scores_rankedCount t_scores_scores t_scores_weights t_scores_ranks t_listing_length t_listing_places t_now_keys K82 n x3 x6 → vV p l e rm_X5_mixVariants s m args below meth c Q9 7 D A 0 0 [(q_t, .inr (5, [.ref q_t_text, .ref q_t_reader, .ref q_t_now, .ref q_t_scores, .ref q_t_trial, .ref q_t_listing, .ref q_t_kept, .int t_keptCount, .int t_stale])), (q_t_now, .inr (3, [.int t_now_variants, .ref q_t_now_keys, .ref q_t_now_sizes, .ref q_t_now_qualities, .ref q_t_now_lengths, .ref q_t_now_ranges, .ref q_t_now_names, .ref q_t_now_weights, .ref q_t_now_ties])), (q_t_now_sizes, .inl (cy 0, 16, .inl t_now_sizes)), (q_t_now_qualities, .inl (cy 0, 16, .inl t_now_qualities)), (q_t_scores, .inr (2, [.ref q_t_now, .ref q_t_scores_places, .ref q_t_scores_weights, .ref q_t_scores_scores, .ref q_t_scores_ranks, .ref q_t_scores_order, .ref q_t_scores_tieRanks, .int t_scores_rankedCount])), (q_t_scores_scores, .inl (cy 0, 16, .inl t_scores_scores)), (q_t_scores_weights, .inl (cy 0, 96, .inl t_scores_weights)), (q_t_scores_ranks, .inl (cy 0, 16, .inl t_scores_ranks)), (q_t_listing, .inr (0, [.ref q_t_now, .ref q_t_listing_order, .ref q_t_listing_places, .ref q_t_listing_bytes, .int t_listing_length])), (q_t_listing_places, .inl (cy 0, 16, .inl t_listing_places)), (q_t_now_keys, .inl (cy 1, 48, .inr (.inl t_now_keys)))] 49 [(0, .ref q_t), (1, .long x1), (3, .long x3), (5, .int x5), (6, .int x6)] [] := by
  intro n
  induction n with
  | zero => intro x3 x6 h; exact False.elim h
  | succ n ih =>
    intro x3 x6 h
    unfold p_X5_mixVariants_49 at h
    refine v_iload cx dX5_mixVariants_49 4 rfl ?_
    refine v_bipush (v := 6) cx dX5_mixVariants_51 (by decide) ?_
    refine v_icmp_ge (tgt := 82) cx dX5_mixVariants_53 (by decide) h (fun h => ?_) (fun h => ?_)
    · refine v_lv (lv' := [(0, .ref q_t), (1, .long x1), (3, .long x3), (5, .int x5), (6, .int x6)]) [0, 1, 2, 3, 4] rfl ?_
      exact hK82 _ _ h
    · refine v_lload_n cx dX5_mixVariants_56 rfl 2 rfl ?_
      refine v_aload_n cx dX5_mixVariants_57 rfl 0 rfl ?_
      refine g_X5_37 cx dX5_mixVariants_58 0 rfl rfl ?_
      refine g_X5_189 cx dX5_mixVariants_61 4 rfl rfl ?_
      refine v_iload cx dX5_mixVariants_64 3 rfl ?_
      refine v_iload cx dX5_mixVariants_66 4 rfl ?_
      refine v_callSpi (As := [.int x5, .int x6]) cx (c_X5_cellOf l g D cy  h) k_X5_190 (by decide) ⟨rfl, rfl⟩ (by decide) rfl rfl (Nat.le_of_ble_eq_true rfl) dX5_mixVariants_68 [] [0, 1, 2, 3, 4, 5, 6, 7, 8, 9, 10] (by decide) (vj_all 11 rfl (by decide +kernel)) rfl rfl rfl (fun r_5 h => ?_)
      refine v_iald cx dX5_mixVariants_71 6 rfl h (fun h => ?_)
      refine v_callSpl (As := [.long x3, .int (t_scores_weights r_5.toNatClampNeg)]) cx (c_X5_mix l g D cy  h) k_X5_234 (by decide) ⟨rfl, rfl⟩ (by decide) rfl rfl (Nat.le_of_ble_eq_true rfl) dX5_mixVariants_72 [] [0, 1, 2, 3, 4, 5, 6, 7, 8, 9, 10] (by decide) (vj_all 11 rfl (by decide +kernel)) rfl rfl rfl (fun r_6 h => ?_)
      refine v_lstore_n (lv' := [(3, .long r_6), (0, .ref q_t), (1, .long x1), (5, .int x5), (6, .int x6)]) cx dX5_mixVariants_75 rfl (by decide) rfl ?_
      refine v_iinc (v := x6 + 1) (k0 := 4) (lv' := [(6, .int (x6 + 1)), (3, .long r_6), (0, .ref q_t), (1, .long x1), (5, .int x5)]) cx dX5_mixVariants_76 rfl rfl (by decide) rfl ?_
      refine v_goto (tgt := 49) cx dX5_mixVariants_79 (by decide) ?_
      refine v_lv (lv' := [(0, .ref q_t), (1, .long x1), (3, .long r_6), (5, .int x5), (6, .int (x6 + 1))]) [2, 3, 1, 4, 0] rfl ?_
      exact ih _ _ h
set_option maxHeartbeats 4000000 in
set_option maxRecDepth 100000 in
theorem w_X5_mixVariants_5 {p : Program} {l : Launch} {e : Env} {s : State} {m : MethodId} {args : Array Value} {below : List Frame} {meth : Method} {c : Code} {Q9 : State → Prop} {mn : String} {Ts : List Cond} {D : va_G} {cy : Nat → ClassId} {g : gT} {A : Nat → Prop} (cx : vC p s m args meth c cX5_mixVariants 7 (some .long) RX5 mn Ts D cy g A) (q_t q_t_text q_t_reader q_t_now q_t_scores q_t_trial q_t_listing q_t_kept q_t_now_keys q_t_now_sizes q_t_now_qualities q_t_now_lengths q_t_now_ranges q_t_now_names q_t_now_weights q_t_now_ties q_t_scores_places q_t_scores_weights q_t_scores_scores q_t_scores_ranks q_t_scores_order q_t_scores_tieRanks q_t_listing_order q_t_listing_places q_t_listing_bytes : Nat) {x1 : Int64} {t_keptCount : Int32} {t_stale : Int32} {t_now_variants : Int32} {t_now_sizes : Nat → Int32} {t_now_qualities : Nat → Int32} {t_scores_rankedCount : Int32} {t_scores_scores : Nat → Int32} {t_scores_weights : Nat → Int32} {t_scores_ranks : Nat → Int32} {t_listing_length : Int32} {t_listing_places : Nat → Int32} {t_now_keys : Nat → Int64} {N : Nat} {K88 : Int64 → Int32 → Prop} (hK88 : ∀ (x3 : Int64) (x5 : Int32), K88 x3 x5 → vV p l e rm_X5_mixVariants s m args below meth c Q9 7 D A 0 0 [(q_t, .inr (5, [.ref q_t_text, .ref q_t_reader, .ref q_t_now, .ref q_t_scores, .ref q_t_trial, .ref q_t_listing, .ref q_t_kept, .int t_keptCount, .int t_stale])), (q_t_now, .inr (3, [.int t_now_variants, .ref q_t_now_keys, .ref q_t_now_sizes, .ref q_t_now_qualities, .ref q_t_now_lengths, .ref q_t_now_ranges, .ref q_t_now_names, .ref q_t_now_weights, .ref q_t_now_ties])), (q_t_now_sizes, .inl (cy 0, 16, .inl t_now_sizes)), (q_t_now_qualities, .inl (cy 0, 16, .inl t_now_qualities)), (q_t_scores, .inr (2, [.ref q_t_now, .ref q_t_scores_places, .ref q_t_scores_weights, .ref q_t_scores_scores, .ref q_t_scores_ranks, .ref q_t_scores_order, .ref q_t_scores_tieRanks, .int t_scores_rankedCount])), (q_t_scores_scores, .inl (cy 0, 16, .inl t_scores_scores)), (q_t_scores_weights, .inl (cy 0, 96, .inl t_scores_weights)), (q_t_scores_ranks, .inl (cy 0, 16, .inl t_scores_ranks)), (q_t_listing, .inr (0, [.ref q_t_now, .ref q_t_listing_order, .ref q_t_listing_places, .ref q_t_listing_bytes, .int t_listing_length])), (q_t_listing_places, .inl (cy 0, 16, .inl t_listing_places)), (q_t_now_keys, .inl (cy 1, 48, .inr (.inl t_now_keys)))] 88 [(0, .ref q_t), (1, .long x1), (3, .long x3), (5, .int x5)] []) : ∀ (n : Nat) (x3 : Int64) (x5 : Int32), p_X5_mixVariants_5 N x1 t_keptCount t_stale t_now_variants t_now_sizes t_now_qualities t_scores_rankedCount t_scores_scores t_scores_weights t_scores_ranks t_listing_length t_listing_places t_now_keys K88 n x3 x5 → vV p l e rm_X5_mixVariants s m args below meth c Q9 7 D A 0 0 [(q_t, .inr (5, [.ref q_t_text, .ref q_t_reader, .ref q_t_now, .ref q_t_scores, .ref q_t_trial, .ref q_t_listing, .ref q_t_kept, .int t_keptCount, .int t_stale])), (q_t_now, .inr (3, [.int t_now_variants, .ref q_t_now_keys, .ref q_t_now_sizes, .ref q_t_now_qualities, .ref q_t_now_lengths, .ref q_t_now_ranges, .ref q_t_now_names, .ref q_t_now_weights, .ref q_t_now_ties])), (q_t_now_sizes, .inl (cy 0, 16, .inl t_now_sizes)), (q_t_now_qualities, .inl (cy 0, 16, .inl t_now_qualities)), (q_t_scores, .inr (2, [.ref q_t_now, .ref q_t_scores_places, .ref q_t_scores_weights, .ref q_t_scores_scores, .ref q_t_scores_ranks, .ref q_t_scores_order, .ref q_t_scores_tieRanks, .int t_scores_rankedCount])), (q_t_scores_scores, .inl (cy 0, 16, .inl t_scores_scores)), (q_t_scores_weights, .inl (cy 0, 96, .inl t_scores_weights)), (q_t_scores_ranks, .inl (cy 0, 16, .inl t_scores_ranks)), (q_t_listing, .inr (0, [.ref q_t_now, .ref q_t_listing_order, .ref q_t_listing_places, .ref q_t_listing_bytes, .int t_listing_length])), (q_t_listing_places, .inl (cy 0, 16, .inl t_listing_places)), (q_t_now_keys, .inl (cy 1, 48, .inr (.inl t_now_keys)))] 5 [(0, .ref q_t), (1, .long x1), (3, .long x3), (5, .int x5)] [] := by
  intro n
  induction n with
  | zero => intro x3 x5 h; exact False.elim h
  | succ n ih =>
    intro x3 x5 h
    unfold p_X5_mixVariants_5 at h
    refine v_iload cx dX5_mixVariants_5 3 rfl ?_
    refine v_aload_n cx dX5_mixVariants_7 rfl 0 rfl ?_
    refine g_X5_28 cx dX5_mixVariants_8 0 rfl rfl ?_
    refine g_X5_111 cx dX5_mixVariants_11 1 rfl rfl ?_
    refine v_icmp_ge (tgt := 88) cx dX5_mixVariants_14 (by decide) h (fun h => ?_) (fun h => ?_)
    · refine v_lv (lv' := [(0, .ref q_t), (1, .long x1), (3, .long x3), (5, .int x5)]) [0, 1, 2, 3] rfl ?_
      exact hK88 _ _ h
    · refine v_iconst (v := 0) cx dX5_mixVariants_17 (by decide) ?_
      refine v_istore (lv' := [(6, .int 0), (0, .ref q_t), (1, .long x1), (3, .long x3), (5, .int x5)]) cx dX5_mixVariants_18 (by decide) rfl ?_
      refine v_lv (lv' := [(0, .ref q_t), (1, .long x1), (3, .long x3), (5, .int x5), (6, .int 0)]) [1, 2, 3, 4, 0] rfl ?_
      refine w_X5_mixVariants_20 cx q_t q_t_text q_t_reader q_t_now q_t_scores q_t_trial q_t_listing q_t_kept q_t_now_keys q_t_now_sizes q_t_now_qualities q_t_now_lengths q_t_now_ranges q_t_now_names q_t_now_weights q_t_now_ties q_t_scores_places q_t_scores_weights q_t_scores_scores q_t_scores_ranks q_t_scores_order q_t_scores_tieRanks q_t_listing_order q_t_listing_places q_t_listing_bytes ?_ N _ _ h
      · intro x3_3 x6_4 h
        refine v_iconst (v := 0) cx dX5_mixVariants_46 (by decide) ?_
        refine v_istore (lv' := [(6, .int 0), (0, .ref q_t), (1, .long x1), (3, .long x3_3), (5, .int x5)]) cx dX5_mixVariants_47 (by decide) rfl ?_
        refine v_lv (lv' := [(0, .ref q_t), (1, .long x1), (3, .long x3_3), (5, .int x5), (6, .int 0)]) [1, 2, 3, 4, 0] rfl ?_
        refine w_X5_mixVariants_49 cx q_t q_t_text q_t_reader q_t_now q_t_scores q_t_trial q_t_listing q_t_kept q_t_now_keys q_t_now_sizes q_t_now_qualities q_t_now_lengths q_t_now_ranges q_t_now_names q_t_now_weights q_t_now_ties q_t_scores_places q_t_scores_weights q_t_scores_scores q_t_scores_ranks q_t_scores_order q_t_scores_tieRanks q_t_listing_order q_t_listing_places q_t_listing_bytes ?_ N _ _ h
        · intro x3_7 x6_8 h
          refine v_iinc (v := x5 + 1) (k0 := 3) (lv' := [(5, .int (x5 + 1)), (0, .ref q_t), (1, .long x1), (3, .long x3_7), (6, .int x6_8)]) cx dX5_mixVariants_82 rfl rfl (by decide) rfl ?_
          refine v_goto (tgt := 5) cx dX5_mixVariants_85 (by decide) ?_
          refine v_lv (lv' := [(0, .ref q_t), (1, .long x1), (3, .long x3_7), (5, .int (x5 + 1))]) [1, 2, 3, 0] rfl ?_
          exact ih _ _ h
set_option maxHeartbeats 4000000 in
set_option maxRecDepth 100000 in
theorem c_X5_mixVariants (l : Launch) (g : gT) (D : va_G) (cy : Nat → ClassId) (q_t q_t_text q_t_reader q_t_now q_t_scores q_t_trial q_t_listing q_t_kept q_t_now_keys q_t_now_sizes q_t_now_qualities q_t_now_lengths q_t_now_ranges q_t_now_names q_t_now_weights q_t_now_ties q_t_scores_places q_t_scores_weights q_t_scores_scores q_t_scores_ranks q_t_scores_order q_t_scores_tieRanks q_t_listing_order q_t_listing_places q_t_listing_bytes : Nat) {t_keptCount : Int32} {t_stale : Int32} {t_now_variants : Int32} {t_now_sizes : Nat → Int32} {t_now_qualities : Nat → Int32} {t_scores_rankedCount : Int32} {t_scores_scores : Nat → Int32} {t_scores_weights : Nat → Int32} {t_scores_ranks : Nat → Int32} {t_listing_length : Int32} {t_listing_places : Nat → Int32} {t_now_keys : Nat → Int64} {x1 : Int64} {N : Nat} {Q : Int64 → Prop} (h : p_X5_mixVariants N t_keptCount t_stale t_now_variants t_now_sizes t_now_qualities t_scores_rankedCount t_scores_scores t_scores_weights t_scores_ranks t_listing_length t_listing_places t_now_keys x1 Q) : UC l yX5_mixVariants cX5_mixVariants 7 (some .long) rm_X5_mixVariants g D cy [.ref q_t, .long x1] [(q_t, .inr (5, [.ref q_t_text, .ref q_t_reader, .ref q_t_now, .ref q_t_scores, .ref q_t_trial, .ref q_t_listing, .ref q_t_kept, .int t_keptCount, .int t_stale])), (q_t_now, .inr (3, [.int t_now_variants, .ref q_t_now_keys, .ref q_t_now_sizes, .ref q_t_now_qualities, .ref q_t_now_lengths, .ref q_t_now_ranges, .ref q_t_now_names, .ref q_t_now_weights, .ref q_t_now_ties])), (q_t_now_sizes, .inl (cy 0, 16, .inl t_now_sizes)), (q_t_now_qualities, .inl (cy 0, 16, .inl t_now_qualities)), (q_t_scores, .inr (2, [.ref q_t_now, .ref q_t_scores_places, .ref q_t_scores_weights, .ref q_t_scores_scores, .ref q_t_scores_ranks, .ref q_t_scores_order, .ref q_t_scores_tieRanks, .int t_scores_rankedCount])), (q_t_scores_scores, .inl (cy 0, 16, .inl t_scores_scores)), (q_t_scores_weights, .inl (cy 0, 96, .inl t_scores_weights)), (q_t_scores_ranks, .inl (cy 0, 16, .inl t_scores_ranks)), (q_t_listing, .inr (0, [.ref q_t_now, .ref q_t_listing_order, .ref q_t_listing_places, .ref q_t_listing_bytes, .int t_listing_length])), (q_t_listing_places, .inl (cy 0, 16, .inl t_listing_places)), (q_t_now_keys, .inl (cy 1, 48, .inr (.inl t_now_keys)))] (fun v w => w = [(q_t, .inr (5, [.ref q_t_text, .ref q_t_reader, .ref q_t_now, .ref q_t_scores, .ref q_t_trial, .ref q_t_listing, .ref q_t_kept, .int t_keptCount, .int t_stale])), (q_t_now, .inr (3, [.int t_now_variants, .ref q_t_now_keys, .ref q_t_now_sizes, .ref q_t_now_qualities, .ref q_t_now_lengths, .ref q_t_now_ranges, .ref q_t_now_names, .ref q_t_now_weights, .ref q_t_now_ties])), (q_t_now_sizes, .inl (cy 0, 16, .inl t_now_sizes)), (q_t_now_qualities, .inl (cy 0, 16, .inl t_now_qualities)), (q_t_scores, .inr (2, [.ref q_t_now, .ref q_t_scores_places, .ref q_t_scores_weights, .ref q_t_scores_scores, .ref q_t_scores_ranks, .ref q_t_scores_order, .ref q_t_scores_tieRanks, .int t_scores_rankedCount])), (q_t_scores_scores, .inl (cy 0, 16, .inl t_scores_scores)), (q_t_scores_weights, .inl (cy 0, 96, .inl t_scores_weights)), (q_t_scores_ranks, .inl (cy 0, 16, .inl t_scores_ranks)), (q_t_listing, .inr (0, [.ref q_t_now, .ref q_t_listing_order, .ref q_t_listing_places, .ref q_t_listing_bytes, .int t_listing_length])), (q_t_listing_places, .inl (cy 0, 16, .inl t_listing_places)), (q_t_now_keys, .inl (cy 1, 48, .inr (.inl t_now_keys)))] ∧ ∃ r : Int64, v = some (.long r) ∧ Q r) := by
  refine UC_of (by decide +kernel) (Nat.le_of_ble_eq_true rfl) [(0, .ref q_t), (1, .long x1)] rfl (fun p e s m args below meth c A cx => ?_)
  unfold p_X5_mixVariants at h
  refine v_lload_n cx dX5_mixVariants_0 rfl 1 rfl ?_
  refine v_lstore_n (lv' := [(3, .long x1), (0, .ref q_t), (1, .long x1)]) cx dX5_mixVariants_1 rfl (by decide) rfl ?_
  refine v_iconst (v := 0) cx dX5_mixVariants_2 (by decide) ?_
  refine v_istore (lv' := [(5, .int 0), (3, .long x1), (0, .ref q_t), (1, .long x1)]) cx dX5_mixVariants_3 (by decide) rfl ?_
  refine v_lv (lv' := [(0, .ref q_t), (1, .long x1), (3, .long x1), (5, .int 0)]) [2, 3, 1, 0] rfl ?_
  refine w_X5_mixVariants_5 cx q_t q_t_text q_t_reader q_t_now q_t_scores q_t_trial q_t_listing q_t_kept q_t_now_keys q_t_now_sizes q_t_now_qualities q_t_now_lengths q_t_now_ranges q_t_now_names q_t_now_weights q_t_now_ties q_t_scores_places q_t_scores_weights q_t_scores_scores q_t_scores_ranks q_t_scores_order q_t_scores_tieRanks q_t_listing_order q_t_listing_places q_t_listing_bytes ?_ N _ _ h
  · intro x3_9 x5_10 h
    refine v_lload_n cx dX5_mixVariants_88 rfl 2 rfl ?_
    exact v_lreturn cx dX5_mixVariants_89 ⟨rfl, _, rfl, h⟩
abbrev rm_X5_mixEntries : Room := { frames := 4, cells := 0, slots := 0, locals := 95 }
set_option maxHeartbeats 4000000 in
set_option maxRecDepth 100000 in
theorem w_X5_mixEntries_33 {p : Program} {l : Launch} {e : Env} {s : State} {m : MethodId} {args : Array Value} {below : List Frame} {meth : Method} {c : Code} {Q9 : State → Prop} {mn : String} {Ts : List Cond} {D : va_G} {cy : Nat → ClassId} {g : gT} {A : Nat → Prop} (cx : vC p s m args meth c cX5_mixEntries 8 (some .long) RX5 mn Ts D cy g A) (q_t q_t_text q_t_reader q_t_now q_t_scores q_t_trial q_t_listing q_t_kept q_t_now_keys q_t_now_sizes q_t_now_qualities q_t_now_lengths q_t_now_ranges q_t_now_names q_t_now_weights q_t_now_ties q_t_scores_places q_t_scores_weights q_t_scores_scores q_t_scores_ranks q_t_scores_order q_t_scores_tieRanks : Nat) {x1 : Int64} {x5 : Int32} {x6 : Int32} {t_keptCount : Int32} {t_stale : Int32} {t_now_variants : Int32} {t_now_lengths : Nat → Int32} {t_now_weights : Nat → Int32} {t_now_names : Nat → Int32} {t_now_keys : Nat → Int64} {t_now_ranges : Nat → Int64} {t_scores_rankedCount : Int32} {t_scores_places : Nat → Int32} {N : Nat} {K60 : Int64 → Int32 → Prop} (hK60 : ∀ (x3 : Int64) (x7 : Int32), K60 x3 x7 → vV p l e rm_X5_mixEntries s m args below meth c Q9 8 D A 0 0 [(q_t, .inr (5, [.ref q_t_text, .ref q_t_reader, .ref q_t_now, .ref q_t_scores, .ref q_t_trial, .ref q_t_listing, .ref q_t_kept, .int t_keptCount, .int t_stale])), (q_t_now, .inr (3, [.int t_now_variants, .ref q_t_now_keys, .ref q_t_now_sizes, .ref q_t_now_qualities, .ref q_t_now_lengths, .ref q_t_now_ranges, .ref q_t_now_names, .ref q_t_now_weights, .ref q_t_now_ties])), (q_t_now_lengths, .inl (cy 0, 6, .inl t_now_lengths)), (q_t_now_weights, .inl (cy 0, 60, .inl t_now_weights)), (q_t_now_names, .inl (cy 0, 60, .inl t_now_names)), (q_t_now_keys, .inl (cy 1, 48, .inr (.inl t_now_keys))), (q_t_now_ranges, .inl (cy 1, 60, .inr (.inl t_now_ranges))), (q_t_scores, .inr (2, [.ref q_t_now, .ref q_t_scores_places, .ref q_t_scores_weights, .ref q_t_scores_scores, .ref q_t_scores_ranks, .ref q_t_scores_order, .ref q_t_scores_tieRanks, .int t_scores_rankedCount])), (q_t_scores_places, .inl (cy 0, 96, .inl t_scores_places))] 60 [(0, .ref q_t), (1, .long x1), (3, .long x3), (5, .int x5), (6, .int x6), (7, .int x7)] []) : ∀ (n : Nat) (x3 : Int64) (x7 : Int32), p_X5_mixEntries_33 N x1 x5 x6 t_keptCount t_stale t_now_variants t_now_lengths t_now_weights t_now_names t_now_keys t_now_ranges t_scores_rankedCount t_scores_places K60 n x3 x7 → vV p l e rm_X5_mixEntries s m args below meth c Q9 8 D A 0 0 [(q_t, .inr (5, [.ref q_t_text, .ref q_t_reader, .ref q_t_now, .ref q_t_scores, .ref q_t_trial, .ref q_t_listing, .ref q_t_kept, .int t_keptCount, .int t_stale])), (q_t_now, .inr (3, [.int t_now_variants, .ref q_t_now_keys, .ref q_t_now_sizes, .ref q_t_now_qualities, .ref q_t_now_lengths, .ref q_t_now_ranges, .ref q_t_now_names, .ref q_t_now_weights, .ref q_t_now_ties])), (q_t_now_lengths, .inl (cy 0, 6, .inl t_now_lengths)), (q_t_now_weights, .inl (cy 0, 60, .inl t_now_weights)), (q_t_now_names, .inl (cy 0, 60, .inl t_now_names)), (q_t_now_keys, .inl (cy 1, 48, .inr (.inl t_now_keys))), (q_t_now_ranges, .inl (cy 1, 60, .inr (.inl t_now_ranges))), (q_t_scores, .inr (2, [.ref q_t_now, .ref q_t_scores_places, .ref q_t_scores_weights, .ref q_t_scores_scores, .ref q_t_scores_ranks, .ref q_t_scores_order, .ref q_t_scores_tieRanks, .int t_scores_rankedCount])), (q_t_scores_places, .inl (cy 0, 96, .inl t_scores_places))] 33 [(0, .ref q_t), (1, .long x1), (3, .long x3), (5, .int x5), (6, .int x6), (7, .int x7)] [] := by
  intro n
  induction n with
  | zero => intro x3 x7 h; exact False.elim h
  | succ n ih =>
    intro x3 x7 h
    unfold p_X5_mixEntries_33 at h
    refine v_iload cx dX5_mixEntries_33 5 rfl ?_
    refine v_iconst (v := 3) cx dX5_mixEntries_35 (by decide) ?_
    refine v_icmp_gt (tgt := 60) cx dX5_mixEntries_36 (by decide) h (fun h => ?_) (fun h => ?_)
    · refine v_lv (lv' := [(0, .ref q_t), (1, .long x1), (3, .long x3), (5, .int x5), (6, .int x6), (7, .int x7)]) [0, 1, 2, 3, 4, 5] rfl ?_
      exact hK60 _ _ h
    · refine v_lload_n cx dX5_mixEntries_39 rfl 2 rfl ?_
      refine v_aload_n cx dX5_mixEntries_40 rfl 0 rfl ?_
      refine v_iload cx dX5_mixEntries_41 3 rfl ?_
      refine v_iload cx dX5_mixEntries_43 4 rfl ?_
      refine v_iload cx dX5_mixEntries_45 5 rfl ?_
      refine v_callVpi (As := [.int x5, .int x6, .int x7]) cx (c_X5_entryValue l g D cy q_t q_t_text q_t_reader q_t_now q_t_scores q_t_trial q_t_listing q_t_kept q_t_now_keys q_t_now_sizes q_t_now_qualities q_t_now_lengths q_t_now_ranges q_t_now_names q_t_now_weights q_t_now_ties q_t_scores_places q_t_scores_weights q_t_scores_scores q_t_scores_ranks q_t_scores_order q_t_scores_tieRanks h) k_X5_196 (by decide) ⟨rfl, rfl⟩ (by decide) rfl rfl (Nat.le_of_ble_eq_true rfl) dX5_mixEntries_47 [0, 1, 3, 4, 5, 6, 7, 8] [2] (by decide) (vj_all 9 rfl (by decide +kernel)) rfl rfl rfl (q0 := 0) rfl rfl (fun r_1 h => ?_)
      refine v_callSpl (As := [.long x3, .int r_1]) cx (c_X5_mix l g D cy  h) k_X5_234 (by decide) ⟨rfl, rfl⟩ (by decide) rfl rfl (Nat.le_of_ble_eq_true rfl) dX5_mixEntries_50 [] [0, 1, 2, 3, 4, 5, 6, 7, 8] (by decide) (vj_all 9 rfl (by decide +kernel)) rfl rfl rfl (fun r_2 h => ?_)
      refine v_lstore_n (lv' := [(3, .long r_2), (0, .ref q_t), (1, .long x1), (5, .int x5), (6, .int x6), (7, .int x7)]) cx dX5_mixEntries_53 rfl (by decide) rfl ?_
      refine v_iinc (v := x7 + 1) (k0 := 5) (lv' := [(7, .int (x7 + 1)), (3, .long r_2), (0, .ref q_t), (1, .long x1), (5, .int x5), (6, .int x6)]) cx dX5_mixEntries_54 rfl rfl (by decide) rfl ?_
      refine v_goto (tgt := 33) cx dX5_mixEntries_57 (by decide) ?_
      refine v_lv (lv' := [(0, .ref q_t), (1, .long x1), (3, .long r_2), (5, .int x5), (6, .int x6), (7, .int (x7 + 1))]) [2, 3, 1, 4, 5, 0] rfl ?_
      exact ih _ _ h
set_option maxHeartbeats 4000000 in
set_option maxRecDepth 100000 in
theorem w_X5_mixEntries_15 {p : Program} {l : Launch} {e : Env} {s : State} {m : MethodId} {args : Array Value} {below : List Frame} {meth : Method} {c : Code} {Q9 : State → Prop} {mn : String} {Ts : List Cond} {D : va_G} {cy : Nat → ClassId} {g : gT} {A : Nat → Prop} (cx : vC p s m args meth c cX5_mixEntries 8 (some .long) RX5 mn Ts D cy g A) (q_t q_t_text q_t_reader q_t_now q_t_scores q_t_trial q_t_listing q_t_kept q_t_now_keys q_t_now_sizes q_t_now_qualities q_t_now_lengths q_t_now_ranges q_t_now_names q_t_now_weights q_t_now_ties q_t_scores_places q_t_scores_weights q_t_scores_scores q_t_scores_ranks q_t_scores_order q_t_scores_tieRanks : Nat) {x1 : Int64} {x5 : Int32} {t_keptCount : Int32} {t_stale : Int32} {t_now_variants : Int32} {t_now_lengths : Nat → Int32} {t_now_weights : Nat → Int32} {t_now_names : Nat → Int32} {t_now_keys : Nat → Int64} {t_now_ranges : Nat → Int64} {t_scores_rankedCount : Int32} {t_scores_places : Nat → Int32} {N : Nat} {K66 : Int64 → Int32 → Prop} (hK66 : ∀ (x3 : Int64) (x6 : Int32), K66 x3 x6 → vV p l e rm_X5_mixEntries s m args below meth c Q9 8 D A 0 0 [(q_t, .inr (5, [.ref q_t_text, .ref q_t_reader, .ref q_t_now, .ref q_t_scores, .ref q_t_trial, .ref q_t_listing, .ref q_t_kept, .int t_keptCount, .int t_stale])), (q_t_now, .inr (3, [.int t_now_variants, .ref q_t_now_keys, .ref q_t_now_sizes, .ref q_t_now_qualities, .ref q_t_now_lengths, .ref q_t_now_ranges, .ref q_t_now_names, .ref q_t_now_weights, .ref q_t_now_ties])), (q_t_now_lengths, .inl (cy 0, 6, .inl t_now_lengths)), (q_t_now_weights, .inl (cy 0, 60, .inl t_now_weights)), (q_t_now_names, .inl (cy 0, 60, .inl t_now_names)), (q_t_now_keys, .inl (cy 1, 48, .inr (.inl t_now_keys))), (q_t_now_ranges, .inl (cy 1, 60, .inr (.inl t_now_ranges))), (q_t_scores, .inr (2, [.ref q_t_now, .ref q_t_scores_places, .ref q_t_scores_weights, .ref q_t_scores_scores, .ref q_t_scores_ranks, .ref q_t_scores_order, .ref q_t_scores_tieRanks, .int t_scores_rankedCount])), (q_t_scores_places, .inl (cy 0, 96, .inl t_scores_places))] 66 [(0, .ref q_t), (1, .long x1), (3, .long x3), (5, .int x5), (6, .int x6)] []) : ∀ (n : Nat) (x3 : Int64) (x6 : Int32), p_X5_mixEntries_15 N x1 x5 t_keptCount t_stale t_now_variants t_now_lengths t_now_weights t_now_names t_now_keys t_now_ranges t_scores_rankedCount t_scores_places K66 n x3 x6 → vV p l e rm_X5_mixEntries s m args below meth c Q9 8 D A 0 0 [(q_t, .inr (5, [.ref q_t_text, .ref q_t_reader, .ref q_t_now, .ref q_t_scores, .ref q_t_trial, .ref q_t_listing, .ref q_t_kept, .int t_keptCount, .int t_stale])), (q_t_now, .inr (3, [.int t_now_variants, .ref q_t_now_keys, .ref q_t_now_sizes, .ref q_t_now_qualities, .ref q_t_now_lengths, .ref q_t_now_ranges, .ref q_t_now_names, .ref q_t_now_weights, .ref q_t_now_ties])), (q_t_now_lengths, .inl (cy 0, 6, .inl t_now_lengths)), (q_t_now_weights, .inl (cy 0, 60, .inl t_now_weights)), (q_t_now_names, .inl (cy 0, 60, .inl t_now_names)), (q_t_now_keys, .inl (cy 1, 48, .inr (.inl t_now_keys))), (q_t_now_ranges, .inl (cy 1, 60, .inr (.inl t_now_ranges))), (q_t_scores, .inr (2, [.ref q_t_now, .ref q_t_scores_places, .ref q_t_scores_weights, .ref q_t_scores_scores, .ref q_t_scores_ranks, .ref q_t_scores_order, .ref q_t_scores_tieRanks, .int t_scores_rankedCount])), (q_t_scores_places, .inl (cy 0, 96, .inl t_scores_places))] 15 [(0, .ref q_t), (1, .long x1), (3, .long x3), (5, .int x5), (6, .int x6)] [] := by
  intro n
  induction n with
  | zero => intro x3 x6 h; exact False.elim h
  | succ n ih =>
    intro x3 x6 h
    unfold p_X5_mixEntries_15 at h
    refine v_iload cx dX5_mixEntries_15 4 rfl ?_
    refine v_aload_n cx dX5_mixEntries_17 rfl 0 rfl ?_
    refine g_X5_28 cx dX5_mixEntries_18 0 rfl rfl ?_
    refine g_X5_287 cx dX5_mixEntries_21 1 rfl rfl ?_
    refine v_iload cx dX5_mixEntries_24 3 rfl ?_
    refine v_iald cx dX5_mixEntries_26 2 rfl h (fun h => ?_)
    refine v_icmp_ge (tgt := 66) cx dX5_mixEntries_27 (by decide) h (fun h => ?_) (fun h => ?_)
    · refine v_lv (lv' := [(0, .ref q_t), (1, .long x1), (3, .long x3), (5, .int x5), (6, .int x6)]) [0, 1, 2, 3, 4] rfl ?_
      exact hK66 _ _ h
    · refine v_iconst (v := 0) cx dX5_mixEntries_30 (by decide) ?_
      refine v_istore (lv' := [(7, .int 0), (0, .ref q_t), (1, .long x1), (3, .long x3), (5, .int x5), (6, .int x6)]) cx dX5_mixEntries_31 (by decide) rfl ?_
      refine v_lv (lv' := [(0, .ref q_t), (1, .long x1), (3, .long x3), (5, .int x5), (6, .int x6), (7, .int 0)]) [1, 2, 3, 4, 5, 0] rfl ?_
      refine w_X5_mixEntries_33 cx q_t q_t_text q_t_reader q_t_now q_t_scores q_t_trial q_t_listing q_t_kept q_t_now_keys q_t_now_sizes q_t_now_qualities q_t_now_lengths q_t_now_ranges q_t_now_names q_t_now_weights q_t_now_ties q_t_scores_places q_t_scores_weights q_t_scores_scores q_t_scores_ranks q_t_scores_order q_t_scores_tieRanks ?_ N _ _ h
      · intro x3_3 x7_4 h
        refine v_iinc (v := x6 + 1) (k0 := 4) (lv' := [(6, .int (x6 + 1)), (0, .ref q_t), (1, .long x1), (3, .long x3_3), (5, .int x5), (7, .int x7_4)]) cx dX5_mixEntries_60 rfl rfl (by decide) rfl ?_
        refine v_goto (tgt := 15) cx dX5_mixEntries_63 (by decide) ?_
        refine v_lv (lv' := [(0, .ref q_t), (1, .long x1), (3, .long x3_3), (5, .int x5), (6, .int (x6 + 1))]) [1, 2, 3, 4, 0] rfl ?_
        exact ih _ _ h
set_option maxHeartbeats 4000000 in
set_option maxRecDepth 100000 in
theorem w_X5_mixEntries_5 {p : Program} {l : Launch} {e : Env} {s : State} {m : MethodId} {args : Array Value} {below : List Frame} {meth : Method} {c : Code} {Q9 : State → Prop} {mn : String} {Ts : List Cond} {D : va_G} {cy : Nat → ClassId} {g : gT} {A : Nat → Prop} (cx : vC p s m args meth c cX5_mixEntries 8 (some .long) RX5 mn Ts D cy g A) (q_t q_t_text q_t_reader q_t_now q_t_scores q_t_trial q_t_listing q_t_kept q_t_now_keys q_t_now_sizes q_t_now_qualities q_t_now_lengths q_t_now_ranges q_t_now_names q_t_now_weights q_t_now_ties q_t_scores_places q_t_scores_weights q_t_scores_scores q_t_scores_ranks q_t_scores_order q_t_scores_tieRanks : Nat) {x1 : Int64} {t_keptCount : Int32} {t_stale : Int32} {t_now_variants : Int32} {t_now_lengths : Nat → Int32} {t_now_weights : Nat → Int32} {t_now_names : Nat → Int32} {t_now_keys : Nat → Int64} {t_now_ranges : Nat → Int64} {t_scores_rankedCount : Int32} {t_scores_places : Nat → Int32} {N : Nat} {K72 : Int64 → Int32 → Prop} (hK72 : ∀ (x3 : Int64) (x5 : Int32), K72 x3 x5 → vV p l e rm_X5_mixEntries s m args below meth c Q9 8 D A 0 0 [(q_t, .inr (5, [.ref q_t_text, .ref q_t_reader, .ref q_t_now, .ref q_t_scores, .ref q_t_trial, .ref q_t_listing, .ref q_t_kept, .int t_keptCount, .int t_stale])), (q_t_now, .inr (3, [.int t_now_variants, .ref q_t_now_keys, .ref q_t_now_sizes, .ref q_t_now_qualities, .ref q_t_now_lengths, .ref q_t_now_ranges, .ref q_t_now_names, .ref q_t_now_weights, .ref q_t_now_ties])), (q_t_now_lengths, .inl (cy 0, 6, .inl t_now_lengths)), (q_t_now_weights, .inl (cy 0, 60, .inl t_now_weights)), (q_t_now_names, .inl (cy 0, 60, .inl t_now_names)), (q_t_now_keys, .inl (cy 1, 48, .inr (.inl t_now_keys))), (q_t_now_ranges, .inl (cy 1, 60, .inr (.inl t_now_ranges))), (q_t_scores, .inr (2, [.ref q_t_now, .ref q_t_scores_places, .ref q_t_scores_weights, .ref q_t_scores_scores, .ref q_t_scores_ranks, .ref q_t_scores_order, .ref q_t_scores_tieRanks, .int t_scores_rankedCount])), (q_t_scores_places, .inl (cy 0, 96, .inl t_scores_places))] 72 [(0, .ref q_t), (1, .long x1), (3, .long x3), (5, .int x5)] []) : ∀ (n : Nat) (x3 : Int64) (x5 : Int32), p_X5_mixEntries_5 N x1 t_keptCount t_stale t_now_variants t_now_lengths t_now_weights t_now_names t_now_keys t_now_ranges t_scores_rankedCount t_scores_places K72 n x3 x5 → vV p l e rm_X5_mixEntries s m args below meth c Q9 8 D A 0 0 [(q_t, .inr (5, [.ref q_t_text, .ref q_t_reader, .ref q_t_now, .ref q_t_scores, .ref q_t_trial, .ref q_t_listing, .ref q_t_kept, .int t_keptCount, .int t_stale])), (q_t_now, .inr (3, [.int t_now_variants, .ref q_t_now_keys, .ref q_t_now_sizes, .ref q_t_now_qualities, .ref q_t_now_lengths, .ref q_t_now_ranges, .ref q_t_now_names, .ref q_t_now_weights, .ref q_t_now_ties])), (q_t_now_lengths, .inl (cy 0, 6, .inl t_now_lengths)), (q_t_now_weights, .inl (cy 0, 60, .inl t_now_weights)), (q_t_now_names, .inl (cy 0, 60, .inl t_now_names)), (q_t_now_keys, .inl (cy 1, 48, .inr (.inl t_now_keys))), (q_t_now_ranges, .inl (cy 1, 60, .inr (.inl t_now_ranges))), (q_t_scores, .inr (2, [.ref q_t_now, .ref q_t_scores_places, .ref q_t_scores_weights, .ref q_t_scores_scores, .ref q_t_scores_ranks, .ref q_t_scores_order, .ref q_t_scores_tieRanks, .int t_scores_rankedCount])), (q_t_scores_places, .inl (cy 0, 96, .inl t_scores_places))] 5 [(0, .ref q_t), (1, .long x1), (3, .long x3), (5, .int x5)] [] := by
  intro n
  induction n with
  | zero => intro x3 x5 h; exact False.elim h
  | succ n ih =>
    intro x3 x5 h
    unfold p_X5_mixEntries_5 at h
    refine v_iload cx dX5_mixEntries_5 3 rfl ?_
    refine v_bipush (v := 6) cx dX5_mixEntries_7 (by decide) ?_
    refine v_icmp_ge (tgt := 72) cx dX5_mixEntries_9 (by decide) h (fun h => ?_) (fun h => ?_)
    · refine v_lv (lv' := [(0, .ref q_t), (1, .long x1), (3, .long x3), (5, .int x5)]) [0, 1, 2, 3] rfl ?_
      exact hK72 _ _ h
    · refine v_iconst (v := 0) cx dX5_mixEntries_12 (by decide) ?_
      refine v_istore (lv' := [(6, .int 0), (0, .ref q_t), (1, .long x1), (3, .long x3), (5, .int x5)]) cx dX5_mixEntries_13 (by decide) rfl ?_
      refine v_lv (lv' := [(0, .ref q_t), (1, .long x1), (3, .long x3), (5, .int x5), (6, .int 0)]) [1, 2, 3, 4, 0] rfl ?_
      refine w_X5_mixEntries_15 cx q_t q_t_text q_t_reader q_t_now q_t_scores q_t_trial q_t_listing q_t_kept q_t_now_keys q_t_now_sizes q_t_now_qualities q_t_now_lengths q_t_now_ranges q_t_now_names q_t_now_weights q_t_now_ties q_t_scores_places q_t_scores_weights q_t_scores_scores q_t_scores_ranks q_t_scores_order q_t_scores_tieRanks ?_ N _ _ h
      · intro x3_5 x6_6 h
        refine v_iinc (v := x5 + 1) (k0 := 3) (lv' := [(5, .int (x5 + 1)), (0, .ref q_t), (1, .long x1), (3, .long x3_5), (6, .int x6_6)]) cx dX5_mixEntries_66 rfl rfl (by decide) rfl ?_
        refine v_goto (tgt := 5) cx dX5_mixEntries_69 (by decide) ?_
        refine v_lv (lv' := [(0, .ref q_t), (1, .long x1), (3, .long x3_5), (5, .int (x5 + 1))]) [1, 2, 3, 0] rfl ?_
        exact ih _ _ h
set_option maxHeartbeats 4000000 in
set_option maxRecDepth 100000 in
theorem c_X5_mixEntries (l : Launch) (g : gT) (D : va_G) (cy : Nat → ClassId) (q_t q_t_text q_t_reader q_t_now q_t_scores q_t_trial q_t_listing q_t_kept q_t_now_keys q_t_now_sizes q_t_now_qualities q_t_now_lengths q_t_now_ranges q_t_now_names q_t_now_weights q_t_now_ties q_t_scores_places q_t_scores_weights q_t_scores_scores q_t_scores_ranks q_t_scores_order q_t_scores_tieRanks : Nat) {t_keptCount : Int32} {t_stale : Int32} {t_now_variants : Int32} {t_now_lengths : Nat → Int32} {t_now_weights : Nat → Int32} {t_now_names : Nat → Int32} {t_now_keys : Nat → Int64} {t_now_ranges : Nat → Int64} {t_scores_rankedCount : Int32} {t_scores_places : Nat → Int32} {x1 : Int64} {N : Nat} {Q : Int64 → Prop} (h : p_X5_mixEntries N t_keptCount t_stale t_now_variants t_now_lengths t_now_weights t_now_names t_now_keys t_now_ranges t_scores_rankedCount t_scores_places x1 Q) : UC l yX5_mixEntries cX5_mixEntries 8 (some .long) rm_X5_mixEntries g D cy [.ref q_t, .long x1] [(q_t, .inr (5, [.ref q_t_text, .ref q_t_reader, .ref q_t_now, .ref q_t_scores, .ref q_t_trial, .ref q_t_listing, .ref q_t_kept, .int t_keptCount, .int t_stale])), (q_t_now, .inr (3, [.int t_now_variants, .ref q_t_now_keys, .ref q_t_now_sizes, .ref q_t_now_qualities, .ref q_t_now_lengths, .ref q_t_now_ranges, .ref q_t_now_names, .ref q_t_now_weights, .ref q_t_now_ties])), (q_t_now_lengths, .inl (cy 0, 6, .inl t_now_lengths)), (q_t_now_weights, .inl (cy 0, 60, .inl t_now_weights)), (q_t_now_names, .inl (cy 0, 60, .inl t_now_names)), (q_t_now_keys, .inl (cy 1, 48, .inr (.inl t_now_keys))), (q_t_now_ranges, .inl (cy 1, 60, .inr (.inl t_now_ranges))), (q_t_scores, .inr (2, [.ref q_t_now, .ref q_t_scores_places, .ref q_t_scores_weights, .ref q_t_scores_scores, .ref q_t_scores_ranks, .ref q_t_scores_order, .ref q_t_scores_tieRanks, .int t_scores_rankedCount])), (q_t_scores_places, .inl (cy 0, 96, .inl t_scores_places))] (fun v w => w = [(q_t, .inr (5, [.ref q_t_text, .ref q_t_reader, .ref q_t_now, .ref q_t_scores, .ref q_t_trial, .ref q_t_listing, .ref q_t_kept, .int t_keptCount, .int t_stale])), (q_t_now, .inr (3, [.int t_now_variants, .ref q_t_now_keys, .ref q_t_now_sizes, .ref q_t_now_qualities, .ref q_t_now_lengths, .ref q_t_now_ranges, .ref q_t_now_names, .ref q_t_now_weights, .ref q_t_now_ties])), (q_t_now_lengths, .inl (cy 0, 6, .inl t_now_lengths)), (q_t_now_weights, .inl (cy 0, 60, .inl t_now_weights)), (q_t_now_names, .inl (cy 0, 60, .inl t_now_names)), (q_t_now_keys, .inl (cy 1, 48, .inr (.inl t_now_keys))), (q_t_now_ranges, .inl (cy 1, 60, .inr (.inl t_now_ranges))), (q_t_scores, .inr (2, [.ref q_t_now, .ref q_t_scores_places, .ref q_t_scores_weights, .ref q_t_scores_scores, .ref q_t_scores_ranks, .ref q_t_scores_order, .ref q_t_scores_tieRanks, .int t_scores_rankedCount])), (q_t_scores_places, .inl (cy 0, 96, .inl t_scores_places))] ∧ ∃ r : Int64, v = some (.long r) ∧ Q r) := by
  refine UC_of (by decide +kernel) (Nat.le_of_ble_eq_true rfl) [(0, .ref q_t), (1, .long x1)] rfl (fun p e s m args below meth c A cx => ?_)
  unfold p_X5_mixEntries at h
  refine v_lload_n cx dX5_mixEntries_0 rfl 1 rfl ?_
  refine v_lstore_n (lv' := [(3, .long x1), (0, .ref q_t), (1, .long x1)]) cx dX5_mixEntries_1 rfl (by decide) rfl ?_
  refine v_iconst (v := 0) cx dX5_mixEntries_2 (by decide) ?_
  refine v_istore (lv' := [(5, .int 0), (3, .long x1), (0, .ref q_t), (1, .long x1)]) cx dX5_mixEntries_3 (by decide) rfl ?_
  refine v_lv (lv' := [(0, .ref q_t), (1, .long x1), (3, .long x1), (5, .int 0)]) [2, 3, 1, 0] rfl ?_
  refine w_X5_mixEntries_5 cx q_t q_t_text q_t_reader q_t_now q_t_scores q_t_trial q_t_listing q_t_kept q_t_now_keys q_t_now_sizes q_t_now_qualities q_t_now_lengths q_t_now_ranges q_t_now_names q_t_now_weights q_t_now_ties q_t_scores_places q_t_scores_weights q_t_scores_scores q_t_scores_ranks q_t_scores_order q_t_scores_tieRanks ?_ N _ _ h
  · intro x3_7 x5_8 h
    refine v_lload_n cx dX5_mixEntries_72 rfl 2 rfl ?_
    exact v_lreturn cx dX5_mixEntries_73 ⟨rfl, _, rfl, h⟩
abbrev rm_X5_digest : Room := { frames := 6, cells := 0, slots := 0, locals := 133 }
set_option maxHeartbeats 4000000 in
set_option maxRecDepth 100000 in
theorem w_X5_digest_17 {p : Program} {l : Launch} {e : Env} {s : State} {m : MethodId} {args : Array Value} {below : List Frame} {meth : Method} {c : Code} {Q9 : State → Prop} {mn : String} {Ts : List Cond} {D : va_G} {cy : Nat → ClassId} {g : gT} {A : Nat → Prop} (cx : vC p s m args meth c cX5_digest 4 (some .long) RX5 mn Ts D cy g A) (q_t q_t_text q_t_reader q_t_now q_t_scores q_t_trial q_t_listing q_t_kept q_t_scores_places q_t_scores_weights q_t_scores_scores q_t_scores_ranks q_t_scores_order q_t_scores_tieRanks q_t_now_keys q_t_now_sizes q_t_now_qualities q_t_now_lengths q_t_now_ranges q_t_now_names q_t_now_weights q_t_now_ties q_t_listing_order q_t_listing_places q_t_listing_bytes q_t_text_bytes : Nat) {t_keptCount : Int32} {t_stale : Int32} {t_scores_rankedCount : Int32} {t_now_variants : Int32} {t_now_lengths : Nat → Int32} {t_now_names : Nat → Int32} {t_now_keys : Nat → Int64} {t_now_ranges : Nat → Int64} {t_scores_places : Nat → Int32} {t_now_weights : Nat → Int32} {t_scores_weights : Nat → Int32} {t_now_qualities : Nat → Int32} {t_scores_scores : Nat → Int32} {t_now_ties : Nat → Int32} {t_now_sizes : Nat → Int32} {t_scores_tieRanks : Nat → Int32} {t_scores_ranks : Nat → Int32} {t_scores_order : Nat → Int32} {t_listing_length : Int32} {t_listing_order : Nat → Int32} {t_listing_places : Nat → Int32} {t_listing_bytes : Nat → Int32} {t_text_length : Int32} {N : Nat} {K39 : Int64 → Int32 → Prop} (hK39 : ∀ (x1 : Int64) (x3 : Int32), K39 x1 x3 → vV p l e rm_X5_digest s m args below meth c Q9 4 D A 0 0 [(q_t, .inr (5, [.ref q_t_text, .ref q_t_reader, .ref q_t_now, .ref q_t_scores, .ref q_t_trial, .ref q_t_listing, .ref q_t_kept, .int t_keptCount, .int t_stale])), (q_t_scores, .inr (2, [.ref q_t_now, .ref q_t_scores_places, .ref q_t_scores_weights, .ref q_t_scores_scores, .ref q_t_scores_ranks, .ref q_t_scores_order, .ref q_t_scores_tieRanks, .int t_scores_rankedCount])), (q_t_now, .inr (3, [.int t_now_variants, .ref q_t_now_keys, .ref q_t_now_sizes, .ref q_t_now_qualities, .ref q_t_now_lengths, .ref q_t_now_ranges, .ref q_t_now_names, .ref q_t_now_weights, .ref q_t_now_ties])), (q_t_now_lengths, .inl (cy 0, 6, .inl t_now_lengths)), (q_t_now_names, .inl (cy 0, 60, .inl t_now_names)), (q_t_now_keys, .inl (cy 1, 48, .inr (.inl t_now_keys))), (q_t_now_ranges, .inl (cy 1, 60, .inr (.inl t_now_ranges))), (q_t_scores_places, .inl (cy 0, 96, .inl t_scores_places)), (q_t_now_weights, .inl (cy 0, 60, .inl t_now_weights)), (q_t_scores_weights, .inl (cy 0, 96, .inl t_scores_weights)), (q_t_now_qualities, .inl (cy 0, 16, .inl t_now_qualities)), (q_t_scores_scores, .inl (cy 0, 16, .inl t_scores_scores)), (q_t_now_ties, .inl (cy 0, 3, .inl t_now_ties)), (q_t_now_sizes, .inl (cy 0, 16, .inl t_now_sizes)), (q_t_scores_tieRanks, .inl (cy 0, 48, .inl t_scores_tieRanks)), (q_t_scores_ranks, .inl (cy 0, 16, .inl t_scores_ranks)), (q_t_scores_order, .inl (cy 0, 16, .inl t_scores_order)), (q_t_listing, .inr (0, [.ref q_t_now, .ref q_t_listing_order, .ref q_t_listing_places, .ref q_t_listing_bytes, .int t_listing_length])), (q_t_listing_order, .inl (cy 0, 16, .inl t_listing_order)), (q_t_listing_places, .inl (cy 0, 16, .inl t_listing_places)), (q_t_listing_bytes, .inl (cy 2, 608, .inl t_listing_bytes)), (q_t_text, .inr (4, [.ref q_t_text_bytes, .int t_text_length]))] 39 [(0, .ref q_t), (1, .long x1), (3, .int x3)] []) : ∀ (n : Nat) (x1 : Int64) (x3 : Int32), p_X5_digest_17 N t_keptCount t_stale t_scores_rankedCount t_now_variants t_now_lengths t_now_names t_now_keys t_now_ranges t_scores_places t_now_weights t_scores_weights t_now_qualities t_scores_scores t_now_ties t_now_sizes t_scores_tieRanks t_scores_ranks t_scores_order t_listing_length t_listing_order t_listing_places t_listing_bytes t_text_length K39 n x1 x3 → vV p l e rm_X5_digest s m args below meth c Q9 4 D A 0 0 [(q_t, .inr (5, [.ref q_t_text, .ref q_t_reader, .ref q_t_now, .ref q_t_scores, .ref q_t_trial, .ref q_t_listing, .ref q_t_kept, .int t_keptCount, .int t_stale])), (q_t_scores, .inr (2, [.ref q_t_now, .ref q_t_scores_places, .ref q_t_scores_weights, .ref q_t_scores_scores, .ref q_t_scores_ranks, .ref q_t_scores_order, .ref q_t_scores_tieRanks, .int t_scores_rankedCount])), (q_t_now, .inr (3, [.int t_now_variants, .ref q_t_now_keys, .ref q_t_now_sizes, .ref q_t_now_qualities, .ref q_t_now_lengths, .ref q_t_now_ranges, .ref q_t_now_names, .ref q_t_now_weights, .ref q_t_now_ties])), (q_t_now_lengths, .inl (cy 0, 6, .inl t_now_lengths)), (q_t_now_names, .inl (cy 0, 60, .inl t_now_names)), (q_t_now_keys, .inl (cy 1, 48, .inr (.inl t_now_keys))), (q_t_now_ranges, .inl (cy 1, 60, .inr (.inl t_now_ranges))), (q_t_scores_places, .inl (cy 0, 96, .inl t_scores_places)), (q_t_now_weights, .inl (cy 0, 60, .inl t_now_weights)), (q_t_scores_weights, .inl (cy 0, 96, .inl t_scores_weights)), (q_t_now_qualities, .inl (cy 0, 16, .inl t_now_qualities)), (q_t_scores_scores, .inl (cy 0, 16, .inl t_scores_scores)), (q_t_now_ties, .inl (cy 0, 3, .inl t_now_ties)), (q_t_now_sizes, .inl (cy 0, 16, .inl t_now_sizes)), (q_t_scores_tieRanks, .inl (cy 0, 48, .inl t_scores_tieRanks)), (q_t_scores_ranks, .inl (cy 0, 16, .inl t_scores_ranks)), (q_t_scores_order, .inl (cy 0, 16, .inl t_scores_order)), (q_t_listing, .inr (0, [.ref q_t_now, .ref q_t_listing_order, .ref q_t_listing_places, .ref q_t_listing_bytes, .int t_listing_length])), (q_t_listing_order, .inl (cy 0, 16, .inl t_listing_order)), (q_t_listing_places, .inl (cy 0, 16, .inl t_listing_places)), (q_t_listing_bytes, .inl (cy 2, 608, .inl t_listing_bytes)), (q_t_text, .inr (4, [.ref q_t_text_bytes, .int t_text_length]))] 17 [(0, .ref q_t), (1, .long x1), (3, .int x3)] [] := by
  intro n
  induction n with
  | zero => intro x1 x3 h; exact False.elim h
  | succ n ih =>
    intro x1 x3 h
    unfold p_X5_digest_17 at h
    refine v_iload_n cx dX5_digest_17 rfl 2 rfl ?_
    refine v_bipush (v := 10) cx dX5_digest_18 (by decide) ?_
    refine v_icmp_gt (tgt := 39) cx dX5_digest_20 (by decide) h (fun h => ?_) (fun h => ?_)
    · refine v_lv (lv' := [(0, .ref q_t), (1, .long x1), (3, .int x3)]) [0, 1, 2] rfl ?_
      exact hK39 _ _ h
    · refine v_lload_n cx dX5_digest_23 rfl 1 rfl ?_
      refine v_aload_n cx dX5_digest_24 rfl 0 rfl ?_
      refine v_iload_n cx dX5_digest_25 rfl 2 rfl ?_
      refine v_callVpi (As := [.int x3]) cx (c_X5_wholeValue l g D cy q_t q_t_text q_t_reader q_t_now q_t_scores q_t_trial q_t_listing q_t_kept q_t_now_keys q_t_now_sizes q_t_now_qualities q_t_now_lengths q_t_now_ranges q_t_now_names q_t_now_weights q_t_now_ties q_t_scores_places q_t_scores_weights q_t_scores_scores q_t_scores_ranks q_t_scores_order q_t_scores_tieRanks q_t_text_bytes q_t_listing_order q_t_listing_places q_t_listing_bytes h) k_X5_205 (by decide) ⟨rfl, rfl⟩ (by decide) rfl rfl (Nat.le_of_ble_eq_true rfl) dX5_digest_26 [0, 2, 1, 16, 11, 3, 21, 12, 17] [4, 5, 6, 7, 8, 9, 10, 13, 14, 15, 18, 19, 20] (by decide) (vj_all 22 rfl (by decide +kernel)) rfl rfl rfl (q0 := 0) rfl rfl (fun r_14 h => ?_)
      refine v_callSpl (As := [.long x1, .int r_14]) cx (c_X5_mix l g D cy  h) k_X5_234 (by decide) ⟨rfl, rfl⟩ (by decide) rfl rfl (Nat.le_of_ble_eq_true rfl) dX5_digest_29 [] [0, 1, 2, 3, 4, 5, 6, 7, 8, 9, 10, 11, 12, 13, 14, 15, 16, 17, 18, 19, 20, 21] (by decide) (vj_all 22 rfl (by decide +kernel)) rfl rfl rfl (fun r_15 h => ?_)
      refine v_lstore_n (lv' := [(1, .long r_15), (0, .ref q_t), (3, .int x3)]) cx dX5_digest_32 rfl (by decide) rfl ?_
      refine v_iinc (v := x3 + 1) (k0 := 2) (lv' := [(3, .int (x3 + 1)), (1, .long r_15), (0, .ref q_t)]) cx dX5_digest_33 rfl rfl (by decide) rfl ?_
      refine v_goto (tgt := 17) cx dX5_digest_36 (by decide) ?_
      refine v_lv (lv' := [(0, .ref q_t), (1, .long r_15), (3, .int (x3 + 1))]) [2, 1, 0] rfl ?_
      exact ih _ _ h
set_option maxHeartbeats 4000000 in
set_option maxRecDepth 100000 in
theorem w_X5_digest_53 {p : Program} {l : Launch} {e : Env} {s : State} {m : MethodId} {args : Array Value} {below : List Frame} {meth : Method} {c : Code} {Q9 : State → Prop} {mn : String} {Ts : List Cond} {D : va_G} {cy : Nat → ClassId} {g : gT} {A : Nat → Prop} (cx : vC p s m args meth c cX5_digest 4 (some .long) RX5 mn Ts D cy g A) (q_t q_t_text q_t_reader q_t_now q_t_scores q_t_trial q_t_listing q_t_kept q_t_scores_places q_t_scores_weights q_t_scores_scores q_t_scores_ranks q_t_scores_order q_t_scores_tieRanks q_t_now_keys q_t_now_sizes q_t_now_qualities q_t_now_lengths q_t_now_ranges q_t_now_names q_t_now_weights q_t_now_ties q_t_listing_order q_t_listing_places q_t_listing_bytes q_t_text_bytes : Nat) {t_keptCount : Int32} {t_stale : Int32} {t_scores_rankedCount : Int32} {t_now_variants : Int32} {t_now_lengths : Nat → Int32} {t_now_names : Nat → Int32} {t_now_keys : Nat → Int64} {t_now_ranges : Nat → Int64} {t_scores_places : Nat → Int32} {t_now_weights : Nat → Int32} {t_scores_weights : Nat → Int32} {t_now_qualities : Nat → Int32} {t_scores_scores : Nat → Int32} {t_now_ties : Nat → Int32} {t_now_sizes : Nat → Int32} {t_scores_tieRanks : Nat → Int32} {t_scores_ranks : Nat → Int32} {t_scores_order : Nat → Int32} {t_listing_length : Int32} {t_listing_order : Nat → Int32} {t_listing_places : Nat → Int32} {t_listing_bytes : Nat → Int32} {t_text_length : Int32} {N : Nat} {K83 : Int64 → Int32 → Prop} (hK83 : ∀ (x1 : Int64) (x3 : Int32), K83 x1 x3 → vV p l e rm_X5_digest s m args below meth c Q9 4 D A 0 0 [(q_t, .inr (5, [.ref q_t_text, .ref q_t_reader, .ref q_t_now, .ref q_t_scores, .ref q_t_trial, .ref q_t_listing, .ref q_t_kept, .int t_keptCount, .int t_stale])), (q_t_scores, .inr (2, [.ref q_t_now, .ref q_t_scores_places, .ref q_t_scores_weights, .ref q_t_scores_scores, .ref q_t_scores_ranks, .ref q_t_scores_order, .ref q_t_scores_tieRanks, .int t_scores_rankedCount])), (q_t_now, .inr (3, [.int t_now_variants, .ref q_t_now_keys, .ref q_t_now_sizes, .ref q_t_now_qualities, .ref q_t_now_lengths, .ref q_t_now_ranges, .ref q_t_now_names, .ref q_t_now_weights, .ref q_t_now_ties])), (q_t_now_lengths, .inl (cy 0, 6, .inl t_now_lengths)), (q_t_now_names, .inl (cy 0, 60, .inl t_now_names)), (q_t_now_keys, .inl (cy 1, 48, .inr (.inl t_now_keys))), (q_t_now_ranges, .inl (cy 1, 60, .inr (.inl t_now_ranges))), (q_t_scores_places, .inl (cy 0, 96, .inl t_scores_places)), (q_t_now_weights, .inl (cy 0, 60, .inl t_now_weights)), (q_t_scores_weights, .inl (cy 0, 96, .inl t_scores_weights)), (q_t_now_qualities, .inl (cy 0, 16, .inl t_now_qualities)), (q_t_scores_scores, .inl (cy 0, 16, .inl t_scores_scores)), (q_t_now_ties, .inl (cy 0, 3, .inl t_now_ties)), (q_t_now_sizes, .inl (cy 0, 16, .inl t_now_sizes)), (q_t_scores_tieRanks, .inl (cy 0, 48, .inl t_scores_tieRanks)), (q_t_scores_ranks, .inl (cy 0, 16, .inl t_scores_ranks)), (q_t_scores_order, .inl (cy 0, 16, .inl t_scores_order)), (q_t_listing, .inr (0, [.ref q_t_now, .ref q_t_listing_order, .ref q_t_listing_places, .ref q_t_listing_bytes, .int t_listing_length])), (q_t_listing_order, .inl (cy 0, 16, .inl t_listing_order)), (q_t_listing_places, .inl (cy 0, 16, .inl t_listing_places)), (q_t_listing_bytes, .inl (cy 2, 608, .inl t_listing_bytes)), (q_t_text, .inr (4, [.ref q_t_text_bytes, .int t_text_length]))] 83 [(0, .ref q_t), (1, .long x1), (3, .int x3)] []) : ∀ (n : Nat) (x1 : Int64) (x3 : Int32), p_X5_digest_53 N t_keptCount t_stale t_scores_rankedCount t_now_variants t_now_lengths t_now_names t_now_keys t_now_ranges t_scores_places t_now_weights t_scores_weights t_now_qualities t_scores_scores t_now_ties t_now_sizes t_scores_tieRanks t_scores_ranks t_scores_order t_listing_length t_listing_order t_listing_places t_listing_bytes t_text_length K83 n x1 x3 → vV p l e rm_X5_digest s m args below meth c Q9 4 D A 0 0 [(q_t, .inr (5, [.ref q_t_text, .ref q_t_reader, .ref q_t_now, .ref q_t_scores, .ref q_t_trial, .ref q_t_listing, .ref q_t_kept, .int t_keptCount, .int t_stale])), (q_t_scores, .inr (2, [.ref q_t_now, .ref q_t_scores_places, .ref q_t_scores_weights, .ref q_t_scores_scores, .ref q_t_scores_ranks, .ref q_t_scores_order, .ref q_t_scores_tieRanks, .int t_scores_rankedCount])), (q_t_now, .inr (3, [.int t_now_variants, .ref q_t_now_keys, .ref q_t_now_sizes, .ref q_t_now_qualities, .ref q_t_now_lengths, .ref q_t_now_ranges, .ref q_t_now_names, .ref q_t_now_weights, .ref q_t_now_ties])), (q_t_now_lengths, .inl (cy 0, 6, .inl t_now_lengths)), (q_t_now_names, .inl (cy 0, 60, .inl t_now_names)), (q_t_now_keys, .inl (cy 1, 48, .inr (.inl t_now_keys))), (q_t_now_ranges, .inl (cy 1, 60, .inr (.inl t_now_ranges))), (q_t_scores_places, .inl (cy 0, 96, .inl t_scores_places)), (q_t_now_weights, .inl (cy 0, 60, .inl t_now_weights)), (q_t_scores_weights, .inl (cy 0, 96, .inl t_scores_weights)), (q_t_now_qualities, .inl (cy 0, 16, .inl t_now_qualities)), (q_t_scores_scores, .inl (cy 0, 16, .inl t_scores_scores)), (q_t_now_ties, .inl (cy 0, 3, .inl t_now_ties)), (q_t_now_sizes, .inl (cy 0, 16, .inl t_now_sizes)), (q_t_scores_tieRanks, .inl (cy 0, 48, .inl t_scores_tieRanks)), (q_t_scores_ranks, .inl (cy 0, 16, .inl t_scores_ranks)), (q_t_scores_order, .inl (cy 0, 16, .inl t_scores_order)), (q_t_listing, .inr (0, [.ref q_t_now, .ref q_t_listing_order, .ref q_t_listing_places, .ref q_t_listing_bytes, .int t_listing_length])), (q_t_listing_order, .inl (cy 0, 16, .inl t_listing_order)), (q_t_listing_places, .inl (cy 0, 16, .inl t_listing_places)), (q_t_listing_bytes, .inl (cy 2, 608, .inl t_listing_bytes)), (q_t_text, .inr (4, [.ref q_t_text_bytes, .int t_text_length]))] 53 [(0, .ref q_t), (1, .long x1), (3, .int x3)] [] := by
  intro n
  induction n with
  | zero => intro x1 x3 h; exact False.elim h
  | succ n ih =>
    intro x1 x3 h
    unfold p_X5_digest_53 at h
    refine v_iload_n cx dX5_digest_53 rfl 2 rfl ?_
    refine v_aload_n cx dX5_digest_54 rfl 0 rfl ?_
    refine g_X5_37 cx dX5_digest_55 0 rfl rfl ?_
    refine g_X5_245 cx dX5_digest_58 1 rfl rfl ?_
    refine v_icmp_ge (tgt := 83) cx dX5_digest_61 (by decide) h (fun h => ?_) (fun h => ?_)
    · refine v_lv (lv' := [(0, .ref q_t), (1, .long x1), (3, .int x3)]) [0, 1, 2] rfl ?_
      exact hK83 _ _ h
    · refine v_lload_n cx dX5_digest_64 rfl 1 rfl ?_
      refine v_aload_n cx dX5_digest_65 rfl 0 rfl ?_
      refine g_X5_37 cx dX5_digest_66 0 rfl rfl ?_
      refine v_iload_n cx dX5_digest_69 rfl 2 rfl ?_
      refine v_callVpi (As := [.int x3]) cx (c_X2_variantAt l g D cy q_t_scores q_t_now q_t_scores_places q_t_scores_weights q_t_scores_scores q_t_scores_ranks q_t_scores_order q_t_scores_tieRanks h) k_X5_202 (by decide) ⟨rfl, rfl⟩ (by decide) rfl rfl (Nat.le_of_ble_eq_true rfl) dX5_digest_70 [1, 16] [0, 2, 3, 4, 5, 6, 7, 8, 9, 10, 11, 12, 13, 14, 15, 17, 18, 19, 20, 21] (by decide) (vj_all 22 rfl (by decide +kernel)) rfl rfl rfl (q0 := 0) rfl rfl (fun r_20 h => ?_)
      refine v_callSpl (As := [.long x1, .int r_20]) cx (c_X5_mix l g D cy  h) k_X5_234 (by decide) ⟨rfl, rfl⟩ (by decide) rfl rfl (Nat.le_of_ble_eq_true rfl) dX5_digest_73 [] [0, 1, 2, 3, 4, 5, 6, 7, 8, 9, 10, 11, 12, 13, 14, 15, 16, 17, 18, 19, 20, 21] (by decide) (vj_all 22 rfl (by decide +kernel)) rfl rfl rfl (fun r_21 h => ?_)
      refine v_lstore_n (lv' := [(1, .long r_21), (0, .ref q_t), (3, .int x3)]) cx dX5_digest_76 rfl (by decide) rfl ?_
      refine v_iinc (v := x3 + 1) (k0 := 2) (lv' := [(3, .int (x3 + 1)), (1, .long r_21), (0, .ref q_t)]) cx dX5_digest_77 rfl rfl (by decide) rfl ?_
      refine v_goto (tgt := 53) cx dX5_digest_80 (by decide) ?_
      refine v_lv (lv' := [(0, .ref q_t), (1, .long r_21), (3, .int (x3 + 1))]) [2, 1, 0] rfl ?_
      exact ih _ _ h
set_option maxHeartbeats 4000000 in
set_option maxRecDepth 100000 in
theorem w_X5_digest_85 {p : Program} {l : Launch} {e : Env} {s : State} {m : MethodId} {args : Array Value} {below : List Frame} {meth : Method} {c : Code} {Q9 : State → Prop} {mn : String} {Ts : List Cond} {D : va_G} {cy : Nat → ClassId} {g : gT} {A : Nat → Prop} (cx : vC p s m args meth c cX5_digest 4 (some .long) RX5 mn Ts D cy g A) (q_t q_t_text q_t_reader q_t_now q_t_scores q_t_trial q_t_listing q_t_kept q_t_scores_places q_t_scores_weights q_t_scores_scores q_t_scores_ranks q_t_scores_order q_t_scores_tieRanks q_t_now_keys q_t_now_sizes q_t_now_qualities q_t_now_lengths q_t_now_ranges q_t_now_names q_t_now_weights q_t_now_ties q_t_listing_order q_t_listing_places q_t_listing_bytes q_t_text_bytes : Nat) {t_keptCount : Int32} {t_stale : Int32} {t_scores_rankedCount : Int32} {t_now_variants : Int32} {t_now_lengths : Nat → Int32} {t_now_names : Nat → Int32} {t_now_keys : Nat → Int64} {t_now_ranges : Nat → Int64} {t_scores_places : Nat → Int32} {t_now_weights : Nat → Int32} {t_scores_weights : Nat → Int32} {t_now_qualities : Nat → Int32} {t_scores_scores : Nat → Int32} {t_now_ties : Nat → Int32} {t_now_sizes : Nat → Int32} {t_scores_tieRanks : Nat → Int32} {t_scores_ranks : Nat → Int32} {t_scores_order : Nat → Int32} {t_listing_length : Int32} {t_listing_order : Nat → Int32} {t_listing_places : Nat → Int32} {t_listing_bytes : Nat → Int32} {t_text_length : Int32} {N : Nat} {K115 : Int64 → Int32 → Prop} (hK115 : ∀ (x1 : Int64) (x3 : Int32), K115 x1 x3 → vV p l e rm_X5_digest s m args below meth c Q9 4 D A 0 0 [(q_t, .inr (5, [.ref q_t_text, .ref q_t_reader, .ref q_t_now, .ref q_t_scores, .ref q_t_trial, .ref q_t_listing, .ref q_t_kept, .int t_keptCount, .int t_stale])), (q_t_scores, .inr (2, [.ref q_t_now, .ref q_t_scores_places, .ref q_t_scores_weights, .ref q_t_scores_scores, .ref q_t_scores_ranks, .ref q_t_scores_order, .ref q_t_scores_tieRanks, .int t_scores_rankedCount])), (q_t_now, .inr (3, [.int t_now_variants, .ref q_t_now_keys, .ref q_t_now_sizes, .ref q_t_now_qualities, .ref q_t_now_lengths, .ref q_t_now_ranges, .ref q_t_now_names, .ref q_t_now_weights, .ref q_t_now_ties])), (q_t_now_lengths, .inl (cy 0, 6, .inl t_now_lengths)), (q_t_now_names, .inl (cy 0, 60, .inl t_now_names)), (q_t_now_keys, .inl (cy 1, 48, .inr (.inl t_now_keys))), (q_t_now_ranges, .inl (cy 1, 60, .inr (.inl t_now_ranges))), (q_t_scores_places, .inl (cy 0, 96, .inl t_scores_places)), (q_t_now_weights, .inl (cy 0, 60, .inl t_now_weights)), (q_t_scores_weights, .inl (cy 0, 96, .inl t_scores_weights)), (q_t_now_qualities, .inl (cy 0, 16, .inl t_now_qualities)), (q_t_scores_scores, .inl (cy 0, 16, .inl t_scores_scores)), (q_t_now_ties, .inl (cy 0, 3, .inl t_now_ties)), (q_t_now_sizes, .inl (cy 0, 16, .inl t_now_sizes)), (q_t_scores_tieRanks, .inl (cy 0, 48, .inl t_scores_tieRanks)), (q_t_scores_ranks, .inl (cy 0, 16, .inl t_scores_ranks)), (q_t_scores_order, .inl (cy 0, 16, .inl t_scores_order)), (q_t_listing, .inr (0, [.ref q_t_now, .ref q_t_listing_order, .ref q_t_listing_places, .ref q_t_listing_bytes, .int t_listing_length])), (q_t_listing_order, .inl (cy 0, 16, .inl t_listing_order)), (q_t_listing_places, .inl (cy 0, 16, .inl t_listing_places)), (q_t_listing_bytes, .inl (cy 2, 608, .inl t_listing_bytes)), (q_t_text, .inr (4, [.ref q_t_text_bytes, .int t_text_length]))] 115 [(0, .ref q_t), (1, .long x1), (3, .int x3)] []) : ∀ (n : Nat) (x1 : Int64) (x3 : Int32), p_X5_digest_85 N t_keptCount t_stale t_scores_rankedCount t_now_variants t_now_lengths t_now_names t_now_keys t_now_ranges t_scores_places t_now_weights t_scores_weights t_now_qualities t_scores_scores t_now_ties t_now_sizes t_scores_tieRanks t_scores_ranks t_scores_order t_listing_length t_listing_order t_listing_places t_listing_bytes t_text_length K115 n x1 x3 → vV p l e rm_X5_digest s m args below meth c Q9 4 D A 0 0 [(q_t, .inr (5, [.ref q_t_text, .ref q_t_reader, .ref q_t_now, .ref q_t_scores, .ref q_t_trial, .ref q_t_listing, .ref q_t_kept, .int t_keptCount, .int t_stale])), (q_t_scores, .inr (2, [.ref q_t_now, .ref q_t_scores_places, .ref q_t_scores_weights, .ref q_t_scores_scores, .ref q_t_scores_ranks, .ref q_t_scores_order, .ref q_t_scores_tieRanks, .int t_scores_rankedCount])), (q_t_now, .inr (3, [.int t_now_variants, .ref q_t_now_keys, .ref q_t_now_sizes, .ref q_t_now_qualities, .ref q_t_now_lengths, .ref q_t_now_ranges, .ref q_t_now_names, .ref q_t_now_weights, .ref q_t_now_ties])), (q_t_now_lengths, .inl (cy 0, 6, .inl t_now_lengths)), (q_t_now_names, .inl (cy 0, 60, .inl t_now_names)), (q_t_now_keys, .inl (cy 1, 48, .inr (.inl t_now_keys))), (q_t_now_ranges, .inl (cy 1, 60, .inr (.inl t_now_ranges))), (q_t_scores_places, .inl (cy 0, 96, .inl t_scores_places)), (q_t_now_weights, .inl (cy 0, 60, .inl t_now_weights)), (q_t_scores_weights, .inl (cy 0, 96, .inl t_scores_weights)), (q_t_now_qualities, .inl (cy 0, 16, .inl t_now_qualities)), (q_t_scores_scores, .inl (cy 0, 16, .inl t_scores_scores)), (q_t_now_ties, .inl (cy 0, 3, .inl t_now_ties)), (q_t_now_sizes, .inl (cy 0, 16, .inl t_now_sizes)), (q_t_scores_tieRanks, .inl (cy 0, 48, .inl t_scores_tieRanks)), (q_t_scores_ranks, .inl (cy 0, 16, .inl t_scores_ranks)), (q_t_scores_order, .inl (cy 0, 16, .inl t_scores_order)), (q_t_listing, .inr (0, [.ref q_t_now, .ref q_t_listing_order, .ref q_t_listing_places, .ref q_t_listing_bytes, .int t_listing_length])), (q_t_listing_order, .inl (cy 0, 16, .inl t_listing_order)), (q_t_listing_places, .inl (cy 0, 16, .inl t_listing_places)), (q_t_listing_bytes, .inl (cy 2, 608, .inl t_listing_bytes)), (q_t_text, .inr (4, [.ref q_t_text_bytes, .int t_text_length]))] 85 [(0, .ref q_t), (1, .long x1), (3, .int x3)] [] := by
  intro n
  induction n with
  | zero => intro x1 x3 h; exact False.elim h
  | succ n ih =>
    intro x1 x3 h
    unfold p_X5_digest_85 at h
    refine v_iload_n cx dX5_digest_85 rfl 2 rfl ?_
    refine v_aload_n cx dX5_digest_86 rfl 0 rfl ?_
    refine g_X5_47 cx dX5_digest_87 0 rfl rfl ?_
    refine g_X5_248 cx dX5_digest_90 17 rfl rfl ?_
    refine v_icmp_ge (tgt := 115) cx dX5_digest_93 (by decide) h (fun h => ?_) (fun h => ?_)
    · refine v_lv (lv' := [(0, .ref q_t), (1, .long x1), (3, .int x3)]) [0, 1, 2] rfl ?_
      exact hK115 _ _ h
    · refine v_lload_n cx dX5_digest_96 rfl 1 rfl ?_
      refine v_aload_n cx dX5_digest_97 rfl 0 rfl ?_
      refine g_X5_47 cx dX5_digest_98 0 rfl rfl ?_
      refine v_iload_n cx dX5_digest_101 rfl 2 rfl ?_
      refine v_callVpi (As := [.int x3]) cx (c_X0_byteAt l g D cy q_t_listing q_t_now q_t_listing_order q_t_listing_places q_t_listing_bytes h) k_X5_211 (by decide) ⟨rfl, rfl⟩ (by decide) rfl rfl (Nat.le_of_ble_eq_true rfl) dX5_digest_102 [17, 20] [0, 1, 2, 3, 4, 5, 6, 7, 8, 9, 10, 11, 12, 13, 14, 15, 16, 18, 19, 21] (by decide) (vj_all 22 rfl (by decide +kernel)) rfl rfl rfl (q0 := 0) rfl rfl (fun r_24 h => ?_)
      refine v_callSpl (As := [.long x1, .int r_24]) cx (c_X5_mix l g D cy  h) k_X5_234 (by decide) ⟨rfl, rfl⟩ (by decide) rfl rfl (Nat.le_of_ble_eq_true rfl) dX5_digest_105 [] [0, 1, 2, 3, 4, 5, 6, 7, 8, 9, 10, 11, 12, 13, 14, 15, 16, 17, 18, 19, 20, 21] (by decide) (vj_all 22 rfl (by decide +kernel)) rfl rfl rfl (fun r_25 h => ?_)
      refine v_lstore_n (lv' := [(1, .long r_25), (0, .ref q_t), (3, .int x3)]) cx dX5_digest_108 rfl (by decide) rfl ?_
      refine v_iinc (v := x3 + 1) (k0 := 2) (lv' := [(3, .int (x3 + 1)), (1, .long r_25), (0, .ref q_t)]) cx dX5_digest_109 rfl rfl (by decide) rfl ?_
      refine v_goto (tgt := 85) cx dX5_digest_112 (by decide) ?_
      refine v_lv (lv' := [(0, .ref q_t), (1, .long r_25), (3, .int (x3 + 1))]) [2, 1, 0] rfl ?_
      exact ih _ _ h
set_option maxHeartbeats 4000000 in
set_option maxRecDepth 100000 in
theorem c_X5_digest (l : Launch) (g : gT) (D : va_G) (cy : Nat → ClassId) (q_t q_t_text q_t_reader q_t_now q_t_scores q_t_trial q_t_listing q_t_kept q_t_scores_places q_t_scores_weights q_t_scores_scores q_t_scores_ranks q_t_scores_order q_t_scores_tieRanks q_t_now_keys q_t_now_sizes q_t_now_qualities q_t_now_lengths q_t_now_ranges q_t_now_names q_t_now_weights q_t_now_ties q_t_listing_order q_t_listing_places q_t_listing_bytes q_t_text_bytes : Nat) {t_keptCount : Int32} {t_stale : Int32} {t_scores_rankedCount : Int32} {t_now_variants : Int32} {t_now_lengths : Nat → Int32} {t_now_names : Nat → Int32} {t_now_keys : Nat → Int64} {t_now_ranges : Nat → Int64} {t_scores_places : Nat → Int32} {t_now_weights : Nat → Int32} {t_scores_weights : Nat → Int32} {t_now_qualities : Nat → Int32} {t_scores_scores : Nat → Int32} {t_now_ties : Nat → Int32} {t_now_sizes : Nat → Int32} {t_scores_tieRanks : Nat → Int32} {t_scores_ranks : Nat → Int32} {t_scores_order : Nat → Int32} {t_listing_length : Int32} {t_listing_order : Nat → Int32} {t_listing_places : Nat → Int32} {t_listing_bytes : Nat → Int32} {t_text_length : Int32} {N : Nat} {Q : Int64 → Int32 → Int32 → (Nat → Int32) → (Nat → Int32) → (Nat → Int32) → (Nat → Int32) → (Nat → Int32) → (Nat → Int32) → Int32 → (Nat → Int32) → (Nat → Int32) → (Nat → Int32) → Prop} (h : p_X5_digest N t_keptCount t_stale t_scores_rankedCount t_now_variants t_now_lengths t_now_names t_now_keys t_now_ranges t_scores_places t_now_weights t_scores_weights t_now_qualities t_scores_scores t_now_ties t_now_sizes t_scores_tieRanks t_scores_ranks t_scores_order t_listing_length t_listing_order t_listing_places t_listing_bytes t_text_length Q) : UC l yX5_digest cX5_digest 4 (some .long) rm_X5_digest g D cy [.ref q_t] [(q_t, .inr (5, [.ref q_t_text, .ref q_t_reader, .ref q_t_now, .ref q_t_scores, .ref q_t_trial, .ref q_t_listing, .ref q_t_kept, .int t_keptCount, .int t_stale])), (q_t_scores, .inr (2, [.ref q_t_now, .ref q_t_scores_places, .ref q_t_scores_weights, .ref q_t_scores_scores, .ref q_t_scores_ranks, .ref q_t_scores_order, .ref q_t_scores_tieRanks, .int t_scores_rankedCount])), (q_t_now, .inr (3, [.int t_now_variants, .ref q_t_now_keys, .ref q_t_now_sizes, .ref q_t_now_qualities, .ref q_t_now_lengths, .ref q_t_now_ranges, .ref q_t_now_names, .ref q_t_now_weights, .ref q_t_now_ties])), (q_t_now_lengths, .inl (cy 0, 6, .inl t_now_lengths)), (q_t_now_names, .inl (cy 0, 60, .inl t_now_names)), (q_t_now_keys, .inl (cy 1, 48, .inr (.inl t_now_keys))), (q_t_now_ranges, .inl (cy 1, 60, .inr (.inl t_now_ranges))), (q_t_scores_places, .inl (cy 0, 96, .inl t_scores_places)), (q_t_now_weights, .inl (cy 0, 60, .inl t_now_weights)), (q_t_scores_weights, .inl (cy 0, 96, .inl t_scores_weights)), (q_t_now_qualities, .inl (cy 0, 16, .inl t_now_qualities)), (q_t_scores_scores, .inl (cy 0, 16, .inl t_scores_scores)), (q_t_now_ties, .inl (cy 0, 3, .inl t_now_ties)), (q_t_now_sizes, .inl (cy 0, 16, .inl t_now_sizes)), (q_t_scores_tieRanks, .inl (cy 0, 48, .inl t_scores_tieRanks)), (q_t_scores_ranks, .inl (cy 0, 16, .inl t_scores_ranks)), (q_t_scores_order, .inl (cy 0, 16, .inl t_scores_order)), (q_t_listing, .inr (0, [.ref q_t_now, .ref q_t_listing_order, .ref q_t_listing_places, .ref q_t_listing_bytes, .int t_listing_length])), (q_t_listing_order, .inl (cy 0, 16, .inl t_listing_order)), (q_t_listing_places, .inl (cy 0, 16, .inl t_listing_places)), (q_t_listing_bytes, .inl (cy 2, 608, .inl t_listing_bytes)), (q_t_text, .inr (4, [.ref q_t_text_bytes, .int t_text_length]))] (fun v w => ∃ (r : Int64) (t_stale' : Int32) (t_scores_rankedCount' : Int32) (t_scores_places' : Nat → Int32) (t_scores_weights' : Nat → Int32) (t_scores_scores' : Nat → Int32) (t_scores_tieRanks' : Nat → Int32) (t_scores_ranks' : Nat → Int32) (t_scores_order' : Nat → Int32) (t_listing_length' : Int32) (t_listing_order' : Nat → Int32) (t_listing_places' : Nat → Int32) (t_listing_bytes' : Nat → Int32), v = some (.long r) ∧ w = [(q_t, .inr (5, [.ref q_t_text, .ref q_t_reader, .ref q_t_now, .ref q_t_scores, .ref q_t_trial, .ref q_t_listing, .ref q_t_kept, .int t_keptCount, .int t_stale'])), (q_t_scores, .inr (2, [.ref q_t_now, .ref q_t_scores_places, .ref q_t_scores_weights, .ref q_t_scores_scores, .ref q_t_scores_ranks, .ref q_t_scores_order, .ref q_t_scores_tieRanks, .int t_scores_rankedCount'])), (q_t_now, .inr (3, [.int t_now_variants, .ref q_t_now_keys, .ref q_t_now_sizes, .ref q_t_now_qualities, .ref q_t_now_lengths, .ref q_t_now_ranges, .ref q_t_now_names, .ref q_t_now_weights, .ref q_t_now_ties])), (q_t_now_lengths, .inl (cy 0, 6, .inl t_now_lengths)), (q_t_now_names, .inl (cy 0, 60, .inl t_now_names)), (q_t_now_keys, .inl (cy 1, 48, .inr (.inl t_now_keys))), (q_t_now_ranges, .inl (cy 1, 60, .inr (.inl t_now_ranges))), (q_t_scores_places, .inl (cy 0, 96, .inl t_scores_places')), (q_t_now_weights, .inl (cy 0, 60, .inl t_now_weights)), (q_t_scores_weights, .inl (cy 0, 96, .inl t_scores_weights')), (q_t_now_qualities, .inl (cy 0, 16, .inl t_now_qualities)), (q_t_scores_scores, .inl (cy 0, 16, .inl t_scores_scores')), (q_t_now_ties, .inl (cy 0, 3, .inl t_now_ties)), (q_t_now_sizes, .inl (cy 0, 16, .inl t_now_sizes)), (q_t_scores_tieRanks, .inl (cy 0, 48, .inl t_scores_tieRanks')), (q_t_scores_ranks, .inl (cy 0, 16, .inl t_scores_ranks')), (q_t_scores_order, .inl (cy 0, 16, .inl t_scores_order')), (q_t_listing, .inr (0, [.ref q_t_now, .ref q_t_listing_order, .ref q_t_listing_places, .ref q_t_listing_bytes, .int t_listing_length'])), (q_t_listing_order, .inl (cy 0, 16, .inl t_listing_order')), (q_t_listing_places, .inl (cy 0, 16, .inl t_listing_places')), (q_t_listing_bytes, .inl (cy 2, 608, .inl t_listing_bytes')), (q_t_text, .inr (4, [.ref q_t_text_bytes, .int t_text_length]))] ∧ Q r t_stale' t_scores_rankedCount' t_scores_places' t_scores_weights' t_scores_scores' t_scores_tieRanks' t_scores_ranks' t_scores_order' t_listing_length' t_listing_order' t_listing_places' t_listing_bytes') := by
  refine UC_of (by decide +kernel) (Nat.le_of_ble_eq_true rfl) [(0, .ref q_t)] rfl (fun p e s m args below meth c A cx => ?_)
  unfold p_X5_digest at h
  refine v_aload_n cx dX5_digest_0 rfl 0 rfl ?_
  refine v_callV (As := []) cx (c_X5_settle l g D cy q_t q_t_text q_t_reader q_t_now q_t_scores q_t_trial q_t_listing q_t_kept q_t_scores_places q_t_scores_weights q_t_scores_scores q_t_scores_ranks q_t_scores_order q_t_scores_tieRanks q_t_now_keys q_t_now_sizes q_t_now_qualities q_t_now_lengths q_t_now_ranges q_t_now_names q_t_now_weights q_t_now_ties q_t_listing_order q_t_listing_places q_t_listing_bytes h) k_X5_181 (by decide) (by decide) rfl rfl (Nat.le_of_ble_eq_true rfl) dX5_digest_1 [0, 1, 2, 3, 4, 5, 6, 7, 8, 9, 10, 11, 12, 13, 14, 15, 16, 17, 18, 19, 20] [21] (by decide) rfl rfl rfl (q0 := 0) rfl rfl (fun v9 w9 hp => ?_)
  refine Exists.elim hp fun u_1 hp => Exists.elim hp fun u_2 hp => Exists.elim hp fun u_3 hp => Exists.elim hp fun u_4 hp => Exists.elim hp fun u_5 hp => Exists.elim hp fun u_6 hp => Exists.elim hp fun u_7 hp => Exists.elim hp fun u_8 hp => Exists.elim hp fun u_9 hp => Exists.elim hp fun u_10 hp => Exists.elim hp fun u_11 hp => Exists.elim hp fun u_12 hp => ?_
  obtain ⟨rfl, rfl, h⟩ := hp
  refine v_afterJ (ws' := [(q_t, .inr (5, [.ref q_t_text, .ref q_t_reader, .ref q_t_now, .ref q_t_scores, .ref q_t_trial, .ref q_t_listing, .ref q_t_kept, .int t_keptCount, .int u_1])), (q_t_scores, .inr (2, [.ref q_t_now, .ref q_t_scores_places, .ref q_t_scores_weights, .ref q_t_scores_scores, .ref q_t_scores_ranks, .ref q_t_scores_order, .ref q_t_scores_tieRanks, .int u_2])), (q_t_now, .inr (3, [.int t_now_variants, .ref q_t_now_keys, .ref q_t_now_sizes, .ref q_t_now_qualities, .ref q_t_now_lengths, .ref q_t_now_ranges, .ref q_t_now_names, .ref q_t_now_weights, .ref q_t_now_ties])), (q_t_now_lengths, .inl (cy 0, 6, .inl t_now_lengths)), (q_t_now_names, .inl (cy 0, 60, .inl t_now_names)), (q_t_now_keys, .inl (cy 1, 48, .inr (.inl t_now_keys))), (q_t_now_ranges, .inl (cy 1, 60, .inr (.inl t_now_ranges))), (q_t_scores_places, .inl (cy 0, 96, .inl u_3)), (q_t_now_weights, .inl (cy 0, 60, .inl t_now_weights)), (q_t_scores_weights, .inl (cy 0, 96, .inl u_4)), (q_t_now_qualities, .inl (cy 0, 16, .inl t_now_qualities)), (q_t_scores_scores, .inl (cy 0, 16, .inl u_5)), (q_t_now_ties, .inl (cy 0, 3, .inl t_now_ties)), (q_t_now_sizes, .inl (cy 0, 16, .inl t_now_sizes)), (q_t_scores_tieRanks, .inl (cy 0, 48, .inl u_6)), (q_t_scores_ranks, .inl (cy 0, 16, .inl u_7)), (q_t_scores_order, .inl (cy 0, 16, .inl u_8)), (q_t_listing, .inr (0, [.ref q_t_now, .ref q_t_listing_order, .ref q_t_listing_places, .ref q_t_listing_bytes, .int u_9])), (q_t_listing_order, .inl (cy 0, 16, .inl u_10)), (q_t_listing_places, .inl (cy 0, 16, .inl u_11)), (q_t_listing_bytes, .inl (cy 2, 608, .inl u_12)), (q_t_text, .inr (4, [.ref q_t_text_bytes, .int t_text_length]))]) (st' := []) (ce := 0) (sl := 0) 22 [22, 23, 24, 25, 26, 27, 28, 29, 30, 31, 32, 33, 34, 35, 36, 37, 38, 39, 40, 41, 42, 21] (by decide +kernel) (by decide +kernel) rfl rfl ⟨rfl, rfl⟩ ?_
  refine v_ldc2 cx dX5_digest_4 wKL_X5_232 ?_
  refine v_aload_n cx dX5_digest_7 rfl 0 rfl ?_
  refine g_X5_55 cx dX5_digest_8 0 rfl rfl ?_
  refine v_callSpl (As := [.long 12856, .int t_keptCount]) cx (c_X5_mix l g D cy  h) k_X5_234 (by decide) ⟨rfl, rfl⟩ (by decide) rfl rfl (Nat.le_of_ble_eq_true rfl) dX5_digest_11 [] [0, 1, 2, 3, 4, 5, 6, 7, 8, 9, 10, 11, 12, 13, 14, 15, 16, 17, 18, 19, 20, 21] (by decide) (vj_all 22 rfl (by decide +kernel)) rfl rfl rfl (fun r_13 h => ?_)
  refine v_lstore_n (lv' := [(1, .long r_13), (0, .ref q_t)]) cx dX5_digest_14 rfl (by decide) rfl ?_
  refine v_iconst (v := 0) cx dX5_digest_15 (by decide) ?_
  refine v_istore_n (lv' := [(3, .int 0), (1, .long r_13), (0, .ref q_t)]) cx dX5_digest_16 rfl (by decide) rfl ?_
  refine v_lv (lv' := [(0, .ref q_t), (1, .long r_13), (3, .int 0)]) [2, 1, 0] rfl ?_
  refine w_X5_digest_17 cx q_t q_t_text q_t_reader q_t_now q_t_scores q_t_trial q_t_listing q_t_kept q_t_scores_places q_t_scores_weights q_t_scores_scores q_t_scores_ranks q_t_scores_order q_t_scores_tieRanks q_t_now_keys q_t_now_sizes q_t_now_qualities q_t_now_lengths q_t_now_ranges q_t_now_names q_t_now_weights q_t_now_ties q_t_listing_order q_t_listing_places q_t_listing_bytes q_t_text_bytes ?_ N _ _ h
  · intro x1_16 x3_17 h
    refine v_aload_n cx dX5_digest_39 rfl 0 rfl ?_
    refine v_lload_n cx dX5_digest_40 rfl 1 rfl ?_
    refine v_callVpl (As := [.long x1_16]) cx (c_X5_mixVariants l g D cy q_t q_t_text q_t_reader q_t_now q_t_scores q_t_trial q_t_listing q_t_kept q_t_now_keys q_t_now_sizes q_t_now_qualities q_t_now_lengths q_t_now_ranges q_t_now_names q_t_now_weights q_t_now_ties q_t_scores_places q_t_scores_weights q_t_scores_scores q_t_scores_ranks q_t_scores_order q_t_scores_tieRanks q_t_listing_order q_t_listing_places q_t_listing_bytes h) k_X5_238 (by decide) ⟨rfl, rfl⟩ (by decide) rfl rfl (Nat.le_of_ble_eq_true rfl) dX5_digest_41 [0, 2, 13, 10, 1, 11, 9, 15, 17, 19, 5] [3, 4, 6, 7, 8, 12, 14, 16, 18, 20, 21] (by decide) (vj_all 22 rfl (by decide +kernel)) rfl rfl rfl (q0 := 0) rfl rfl (fun r_18 h => ?_)
    refine v_lstore_n (lv' := [(1, .long r_18), (0, .ref q_t), (3, .int x3_17)]) cx dX5_digest_44 rfl (by decide) rfl ?_
    refine v_aload_n cx dX5_digest_45 rfl 1 rfl ?_
    refine v_lload_n cx dX5_digest_46 rfl 0 rfl ?_
    refine v_callVpl (As := [.long r_18]) cx (c_X5_mixEntries l g D cy q_t q_t_text q_t_reader q_t_now q_t_scores q_t_trial q_t_listing q_t_kept q_t_now_keys q_t_now_sizes q_t_now_qualities q_t_now_lengths q_t_now_ranges q_t_now_names q_t_now_weights q_t_now_ties q_t_scores_places q_t_scores_weights q_t_scores_scores q_t_scores_ranks q_t_scores_order q_t_scores_tieRanks h) k_X5_242 (by decide) ⟨rfl, rfl⟩ (by decide) rfl rfl (Nat.le_of_ble_eq_true rfl) dX5_digest_47 [0, 2, 3, 8, 4, 5, 6, 1, 7] [9, 10, 11, 12, 13, 14, 15, 16, 17, 18, 19, 20, 21] (by decide) (vj_all 22 rfl (by decide +kernel)) rfl rfl rfl (q0 := 0) rfl rfl (fun r_19 h => ?_)
    refine v_lstore_n (lv' := [(1, .long r_19), (0, .ref q_t), (3, .int x3_17)]) cx dX5_digest_50 rfl (by decide) rfl ?_
    refine v_iconst (v := 0) cx dX5_digest_51 (by decide) ?_
    refine v_istore_n (lv' := [(3, .int 0), (1, .long r_19), (0, .ref q_t)]) cx dX5_digest_52 rfl (by decide) rfl ?_
    refine v_lv (lv' := [(0, .ref q_t), (1, .long r_19), (3, .int 0)]) [2, 1, 0] rfl ?_
    refine w_X5_digest_53 cx q_t q_t_text q_t_reader q_t_now q_t_scores q_t_trial q_t_listing q_t_kept q_t_scores_places q_t_scores_weights q_t_scores_scores q_t_scores_ranks q_t_scores_order q_t_scores_tieRanks q_t_now_keys q_t_now_sizes q_t_now_qualities q_t_now_lengths q_t_now_ranges q_t_now_names q_t_now_weights q_t_now_ties q_t_listing_order q_t_listing_places q_t_listing_bytes q_t_text_bytes ?_ N _ _ h
    · intro x1_22 x3_23 h
      refine v_iconst (v := 0) cx dX5_digest_83 (by decide) ?_
      refine v_istore_n (lv' := [(3, .int 0), (0, .ref q_t), (1, .long x1_22)]) cx dX5_digest_84 rfl (by decide) rfl ?_
      refine v_lv (lv' := [(0, .ref q_t), (1, .long x1_22), (3, .int 0)]) [1, 2, 0] rfl ?_
      refine w_X5_digest_85 cx q_t q_t_text q_t_reader q_t_now q_t_scores q_t_trial q_t_listing q_t_kept q_t_scores_places q_t_scores_weights q_t_scores_scores q_t_scores_ranks q_t_scores_order q_t_scores_tieRanks q_t_now_keys q_t_now_sizes q_t_now_qualities q_t_now_lengths q_t_now_ranges q_t_now_names q_t_now_weights q_t_now_ties q_t_listing_order q_t_listing_places q_t_listing_bytes q_t_text_bytes ?_ N _ _ h
      · intro x1_26 x3_27 h
        refine v_lload_n cx dX5_digest_115 rfl 1 rfl ?_
        exact v_lreturn cx dX5_digest_116 ⟨_, _, _, _, _, _, _, _, _, _, _, _, _, rfl, rfl, h⟩
abbrev rm_X6_init : Room := { frames := 1, cells := 10, slots := 3010, locals := 30 }
set_option maxHeartbeats 8000000 in
set_option maxRecDepth 100000 in
theorem c_X6_init (l : Launch) (g : gT) (D : va_G) (cy : Nat → ClassId) (q_t : Nat) : UC l yX6_init cX6_init 1 none rm_X6_init g D cy [.ref q_t] [(q_t, .inr (6, [.null, .null, .int 0, .null, .int 0, .int 0, .int 0, .null, .int 0, .null, .null, .null, .null, .int 0, .int 0, .null, .null, .int 0, .long 0]))] (fun v w => ∃ (q_t_m' q_t_saved' q_t_text' q_t_read' q_t_counts' q_t_scores' q_t_isIn' q_t_order' q_t_row' q_t_listing' : Nat), v = none ∧ w = [(q_t, .inr (6, [.ref q_t_m', .ref q_t_saved', .int 0, .ref q_t_text', .int 0, .int 0, .int 0, .ref q_t_read', .int 0, .ref q_t_counts', .ref q_t_scores', .ref q_t_isIn', .ref q_t_order', .int 0, .int (-1), .ref q_t_row', .ref q_t_listing', .int 0, .long 0])), (q_t_m', .inl (cy 0, 378, .inl (upd (fun _ => 0) ((1 : Int32).toNatClampNeg) 1))), (q_t_saved', .inl (cy 0, 1512, .inl (fun _ => 0))), (q_t_text', .inl (cy 0, 120, .inl (fun _ => 0))), (q_t_read', .inl (cy 0, 40, .inl (fun _ => 0))), (q_t_counts', .inl (cy 0, 96, .inl (fun _ => 0))), (q_t_scores', .inl (cy 0, 16, .inl (fun _ => 0))), (q_t_isIn', .inl (cy 3, 16, .inl (fun _ => 0))), (q_t_order', .inl (cy 0, 16, .inl (fun _ => 0))), (q_t_row', .inl (cy 0, 16, .inl (fun _ => 0))), (q_t_listing', .inl (cy 0, 800, .inl (fun _ => 0)))]) := by
  refine UC_of (by decide +kernel) (Nat.le_of_ble_eq_true rfl) [(0, .ref q_t)] rfl (fun p e s m args below meth c A cx => ?_)
  have h := True.intro
  refine v_aload_n cx dX6_init_0 rfl 0 rfl ?_
  refine v_objInit cx wM_X6_1 wI_objectInit wC_objectInit dX6_init_1 (by decide) (by decide) ?_
  refine v_aload_n cx dX6_init_4 rfl 0 rfl ?_
  refine v_sipush (v := 378) cx dX6_init_5 (by decide) ?_
  refine v_newa (N' := 378) (ce := 1) (sl := 378) (a0 := (378, .inl (fun _ => 0))) (atype := .int) cx wArr_int 0 rfl rfl gprim_i (fun _ => rfl) (by decide) (by decide) (by decide) ⟨rfl, rfl⟩ (by decide) (by decide) dX6_init_8 (fun q_n_2 => ?_)
  refine v_is (ws' := [(q_t, .inr (6, [.null, .null, .int 0, .null, .int 0, .int 0, .int 0, .null, .int 0, .null, .null, .null, .null, .int 0, .int 0, .null, .null, .int 0, .long 0])), (q_n_2, .inl (cy 0, 378, .inl (fun _ => 0)))]) rfl ?_
  refine p_X6_7 (ws' := [(q_t, .inr (6, [.ref q_n_2, .null, .int 0, .null, .int 0, .int 0, .int 0, .null, .int 0, .null, .null, .null, .null, .int 0, .int 0, .null, .null, .int 0, .long 0])), (q_n_2, .inl (cy 0, 378, .inl (fun _ => 0)))]) cx rfl dX6_init_10 0 rfl rfl rfl (Nat.le_of_ble_eq_true rfl) rfl ?_
  refine v_aload_n cx dX6_init_13 rfl 0 rfl ?_
  refine v_sipush (v := 1512) cx dX6_init_14 (by decide) ?_
  refine v_newa (N' := 1512) (ce := 2) (sl := 1890) (a0 := (1512, .inl (fun _ => 0))) (atype := .int) cx wArr_int 0 rfl rfl gprim_i (fun _ => rfl) (by decide) (by decide) (by decide) ⟨rfl, rfl⟩ (by decide) (by decide) dX6_init_17 (fun q_n_4 => ?_)
  refine v_is (ws' := [(q_t, .inr (6, [.ref q_n_2, .null, .int 0, .null, .int 0, .int 0, .int 0, .null, .int 0, .null, .null, .null, .null, .int 0, .int 0, .null, .null, .int 0, .long 0])), (q_n_2, .inl (cy 0, 378, .inl (fun _ => 0))), (q_n_4, .inl (cy 0, 1512, .inl (fun _ => 0)))]) rfl ?_
  refine p_X6_13 (ws' := [(q_t, .inr (6, [.ref q_n_2, .ref q_n_4, .int 0, .null, .int 0, .int 0, .int 0, .null, .int 0, .null, .null, .null, .null, .int 0, .int 0, .null, .null, .int 0, .long 0])), (q_n_2, .inl (cy 0, 378, .inl (fun _ => 0))), (q_n_4, .inl (cy 0, 1512, .inl (fun _ => 0)))]) cx rfl dX6_init_19 0 rfl rfl rfl (Nat.le_of_ble_eq_true rfl) rfl ?_
  refine v_aload_n cx dX6_init_22 rfl 0 rfl ?_
  refine v_bipush (v := 120) cx dX6_init_23 (by decide) ?_
  refine v_newa (N' := 120) (ce := 3) (sl := 2010) (a0 := (120, .inl (fun _ => 0))) (atype := .int) cx wArr_int 0 rfl rfl gprim_i (fun _ => rfl) (by decide) (by decide) (by decide) ⟨rfl, rfl⟩ (by decide) (by decide) dX6_init_25 (fun q_n_6 => ?_)
  refine v_is (ws' := [(q_t, .inr (6, [.ref q_n_2, .ref q_n_4, .int 0, .null, .int 0, .int 0, .int 0, .null, .int 0, .null, .null, .null, .null, .int 0, .int 0, .null, .null, .int 0, .long 0])), (q_n_2, .inl (cy 0, 378, .inl (fun _ => 0))), (q_n_4, .inl (cy 0, 1512, .inl (fun _ => 0))), (q_n_6, .inl (cy 0, 120, .inl (fun _ => 0)))]) rfl ?_
  refine p_X6_16 (ws' := [(q_t, .inr (6, [.ref q_n_2, .ref q_n_4, .int 0, .ref q_n_6, .int 0, .int 0, .int 0, .null, .int 0, .null, .null, .null, .null, .int 0, .int 0, .null, .null, .int 0, .long 0])), (q_n_2, .inl (cy 0, 378, .inl (fun _ => 0))), (q_n_4, .inl (cy 0, 1512, .inl (fun _ => 0))), (q_n_6, .inl (cy 0, 120, .inl (fun _ => 0)))]) cx rfl dX6_init_27 0 rfl rfl rfl (Nat.le_of_ble_eq_true rfl) rfl ?_
  refine v_aload_n cx dX6_init_30 rfl 0 rfl ?_
  refine v_bipush (v := 40) cx dX6_init_31 (by decide) ?_
  refine v_newa (N' := 40) (ce := 4) (sl := 2050) (a0 := (40, .inl (fun _ => 0))) (atype := .int) cx wArr_int 0 rfl rfl gprim_i (fun _ => rfl) (by decide) (by decide) (by decide) ⟨rfl, rfl⟩ (by decide) (by decide) dX6_init_33 (fun q_n_8 => ?_)
  refine v_is (ws' := [(q_t, .inr (6, [.ref q_n_2, .ref q_n_4, .int 0, .ref q_n_6, .int 0, .int 0, .int 0, .null, .int 0, .null, .null, .null, .null, .int 0, .int 0, .null, .null, .int 0, .long 0])), (q_n_2, .inl (cy 0, 378, .inl (fun _ => 0))), (q_n_4, .inl (cy 0, 1512, .inl (fun _ => 0))), (q_n_6, .inl (cy 0, 120, .inl (fun _ => 0))), (q_n_8, .inl (cy 0, 40, .inl (fun _ => 0)))]) rfl ?_
  refine p_X6_19 (ws' := [(q_t, .inr (6, [.ref q_n_2, .ref q_n_4, .int 0, .ref q_n_6, .int 0, .int 0, .int 0, .ref q_n_8, .int 0, .null, .null, .null, .null, .int 0, .int 0, .null, .null, .int 0, .long 0])), (q_n_2, .inl (cy 0, 378, .inl (fun _ => 0))), (q_n_4, .inl (cy 0, 1512, .inl (fun _ => 0))), (q_n_6, .inl (cy 0, 120, .inl (fun _ => 0))), (q_n_8, .inl (cy 0, 40, .inl (fun _ => 0)))]) cx rfl dX6_init_35 0 rfl rfl rfl (Nat.le_of_ble_eq_true rfl) rfl ?_
  refine v_aload_n cx dX6_init_38 rfl 0 rfl ?_
  refine v_bipush (v := 96) cx dX6_init_39 (by decide) ?_
  refine v_newa (N' := 96) (ce := 5) (sl := 2146) (a0 := (96, .inl (fun _ => 0))) (atype := .int) cx wArr_int 0 rfl rfl gprim_i (fun _ => rfl) (by decide) (by decide) (by decide) ⟨rfl, rfl⟩ (by decide) (by decide) dX6_init_41 (fun q_n_10 => ?_)
  refine v_is (ws' := [(q_t, .inr (6, [.ref q_n_2, .ref q_n_4, .int 0, .ref q_n_6, .int 0, .int 0, .int 0, .ref q_n_8, .int 0, .null, .null, .null, .null, .int 0, .int 0, .null, .null, .int 0, .long 0])), (q_n_2, .inl (cy 0, 378, .inl (fun _ => 0))), (q_n_4, .inl (cy 0, 1512, .inl (fun _ => 0))), (q_n_6, .inl (cy 0, 120, .inl (fun _ => 0))), (q_n_8, .inl (cy 0, 40, .inl (fun _ => 0))), (q_n_10, .inl (cy 0, 96, .inl (fun _ => 0)))]) rfl ?_
  refine p_X6_22 (ws' := [(q_t, .inr (6, [.ref q_n_2, .ref q_n_4, .int 0, .ref q_n_6, .int 0, .int 0, .int 0, .ref q_n_8, .int 0, .ref q_n_10, .null, .null, .null, .int 0, .int 0, .null, .null, .int 0, .long 0])), (q_n_2, .inl (cy 0, 378, .inl (fun _ => 0))), (q_n_4, .inl (cy 0, 1512, .inl (fun _ => 0))), (q_n_6, .inl (cy 0, 120, .inl (fun _ => 0))), (q_n_8, .inl (cy 0, 40, .inl (fun _ => 0))), (q_n_10, .inl (cy 0, 96, .inl (fun _ => 0)))]) cx rfl dX6_init_43 0 rfl rfl rfl (Nat.le_of_ble_eq_true rfl) rfl ?_
  refine v_aload_n cx dX6_init_46 rfl 0 rfl ?_
  refine v_bipush (v := 16) cx dX6_init_47 (by decide) ?_
  refine v_newa (N' := 16) (ce := 6) (sl := 2162) (a0 := (16, .inl (fun _ => 0))) (atype := .int) cx wArr_int 0 rfl rfl gprim_i (fun _ => rfl) (by decide) (by decide) (by decide) ⟨rfl, rfl⟩ (by decide) (by decide) dX6_init_49 (fun q_n_12 => ?_)
  refine v_is (ws' := [(q_t, .inr (6, [.ref q_n_2, .ref q_n_4, .int 0, .ref q_n_6, .int 0, .int 0, .int 0, .ref q_n_8, .int 0, .ref q_n_10, .null, .null, .null, .int 0, .int 0, .null, .null, .int 0, .long 0])), (q_n_2, .inl (cy 0, 378, .inl (fun _ => 0))), (q_n_4, .inl (cy 0, 1512, .inl (fun _ => 0))), (q_n_6, .inl (cy 0, 120, .inl (fun _ => 0))), (q_n_8, .inl (cy 0, 40, .inl (fun _ => 0))), (q_n_10, .inl (cy 0, 96, .inl (fun _ => 0))), (q_n_12, .inl (cy 0, 16, .inl (fun _ => 0)))]) rfl ?_
  refine p_X6_25 (ws' := [(q_t, .inr (6, [.ref q_n_2, .ref q_n_4, .int 0, .ref q_n_6, .int 0, .int 0, .int 0, .ref q_n_8, .int 0, .ref q_n_10, .ref q_n_12, .null, .null, .int 0, .int 0, .null, .null, .int 0, .long 0])), (q_n_2, .inl (cy 0, 378, .inl (fun _ => 0))), (q_n_4, .inl (cy 0, 1512, .inl (fun _ => 0))), (q_n_6, .inl (cy 0, 120, .inl (fun _ => 0))), (q_n_8, .inl (cy 0, 40, .inl (fun _ => 0))), (q_n_10, .inl (cy 0, 96, .inl (fun _ => 0))), (q_n_12, .inl (cy 0, 16, .inl (fun _ => 0)))]) cx rfl dX6_init_51 0 rfl rfl rfl (Nat.le_of_ble_eq_true rfl) rfl ?_
  refine v_aload_n cx dX6_init_54 rfl 0 rfl ?_
  refine v_bipush (v := 16) cx dX6_init_55 (by decide) ?_
  refine v_newa (N' := 16) (ce := 7) (sl := 2178) (a0 := (16, .inl (fun _ => 0))) (atype := .boolean) cx wArr_boolean 3 rfl rfl gprim_z (fun _ => rfl) (by decide) (by decide) (by decide) ⟨rfl, rfl⟩ (by decide) (by decide) dX6_init_57 (fun q_n_14 => ?_)
  refine v_is (ws' := [(q_t, .inr (6, [.ref q_n_2, .ref q_n_4, .int 0, .ref q_n_6, .int 0, .int 0, .int 0, .ref q_n_8, .int 0, .ref q_n_10, .ref q_n_12, .null, .null, .int 0, .int 0, .null, .null, .int 0, .long 0])), (q_n_2, .inl (cy 0, 378, .inl (fun _ => 0))), (q_n_4, .inl (cy 0, 1512, .inl (fun _ => 0))), (q_n_6, .inl (cy 0, 120, .inl (fun _ => 0))), (q_n_8, .inl (cy 0, 40, .inl (fun _ => 0))), (q_n_10, .inl (cy 0, 96, .inl (fun _ => 0))), (q_n_12, .inl (cy 0, 16, .inl (fun _ => 0))), (q_n_14, .inl (cy 3, 16, .inl (fun _ => 0)))]) rfl ?_
  refine p_X6_28 (ws' := [(q_t, .inr (6, [.ref q_n_2, .ref q_n_4, .int 0, .ref q_n_6, .int 0, .int 0, .int 0, .ref q_n_8, .int 0, .ref q_n_10, .ref q_n_12, .ref q_n_14, .null, .int 0, .int 0, .null, .null, .int 0, .long 0])), (q_n_2, .inl (cy 0, 378, .inl (fun _ => 0))), (q_n_4, .inl (cy 0, 1512, .inl (fun _ => 0))), (q_n_6, .inl (cy 0, 120, .inl (fun _ => 0))), (q_n_8, .inl (cy 0, 40, .inl (fun _ => 0))), (q_n_10, .inl (cy 0, 96, .inl (fun _ => 0))), (q_n_12, .inl (cy 0, 16, .inl (fun _ => 0))), (q_n_14, .inl (cy 3, 16, .inl (fun _ => 0)))]) cx rfl dX6_init_59 0 rfl rfl rfl (Nat.le_of_ble_eq_true rfl) rfl ?_
  refine v_aload_n cx dX6_init_62 rfl 0 rfl ?_
  refine v_bipush (v := 16) cx dX6_init_63 (by decide) ?_
  refine v_newa (N' := 16) (ce := 8) (sl := 2194) (a0 := (16, .inl (fun _ => 0))) (atype := .int) cx wArr_int 0 rfl rfl gprim_i (fun _ => rfl) (by decide) (by decide) (by decide) ⟨rfl, rfl⟩ (by decide) (by decide) dX6_init_65 (fun q_n_16 => ?_)
  refine v_is (ws' := [(q_t, .inr (6, [.ref q_n_2, .ref q_n_4, .int 0, .ref q_n_6, .int 0, .int 0, .int 0, .ref q_n_8, .int 0, .ref q_n_10, .ref q_n_12, .ref q_n_14, .null, .int 0, .int 0, .null, .null, .int 0, .long 0])), (q_n_2, .inl (cy 0, 378, .inl (fun _ => 0))), (q_n_4, .inl (cy 0, 1512, .inl (fun _ => 0))), (q_n_6, .inl (cy 0, 120, .inl (fun _ => 0))), (q_n_8, .inl (cy 0, 40, .inl (fun _ => 0))), (q_n_10, .inl (cy 0, 96, .inl (fun _ => 0))), (q_n_12, .inl (cy 0, 16, .inl (fun _ => 0))), (q_n_14, .inl (cy 3, 16, .inl (fun _ => 0))), (q_n_16, .inl (cy 0, 16, .inl (fun _ => 0)))]) rfl ?_
  refine p_X6_32 (ws' := [(q_t, .inr (6, [.ref q_n_2, .ref q_n_4, .int 0, .ref q_n_6, .int 0, .int 0, .int 0, .ref q_n_8, .int 0, .ref q_n_10, .ref q_n_12, .ref q_n_14, .ref q_n_16, .int 0, .int 0, .null, .null, .int 0, .long 0])), (q_n_2, .inl (cy 0, 378, .inl (fun _ => 0))), (q_n_4, .inl (cy 0, 1512, .inl (fun _ => 0))), (q_n_6, .inl (cy 0, 120, .inl (fun _ => 0))), (q_n_8, .inl (cy 0, 40, .inl (fun _ => 0))), (q_n_10, .inl (cy 0, 96, .inl (fun _ => 0))), (q_n_12, .inl (cy 0, 16, .inl (fun _ => 0))), (q_n_14, .inl (cy 3, 16, .inl (fun _ => 0))), (q_n_16, .inl (cy 0, 16, .inl (fun _ => 0)))]) cx rfl dX6_init_67 0 rfl rfl rfl (Nat.le_of_ble_eq_true rfl) rfl ?_
  refine v_aload_n cx dX6_init_70 rfl 0 rfl ?_
  refine v_iconst (v := (-1)) cx dX6_init_71 (by decide) ?_
  refine p_X6_35 (ws' := [(q_t, .inr (6, [.ref q_n_2, .ref q_n_4, .int 0, .ref q_n_6, .int 0, .int 0, .int 0, .ref q_n_8, .int 0, .ref q_n_10, .ref q_n_12, .ref q_n_14, .ref q_n_16, .int 0, .int (-1), .null, .null, .int 0, .long 0])), (q_n_2, .inl (cy 0, 378, .inl (fun _ => 0))), (q_n_4, .inl (cy 0, 1512, .inl (fun _ => 0))), (q_n_6, .inl (cy 0, 120, .inl (fun _ => 0))), (q_n_8, .inl (cy 0, 40, .inl (fun _ => 0))), (q_n_10, .inl (cy 0, 96, .inl (fun _ => 0))), (q_n_12, .inl (cy 0, 16, .inl (fun _ => 0))), (q_n_14, .inl (cy 3, 16, .inl (fun _ => 0))), (q_n_16, .inl (cy 0, 16, .inl (fun _ => 0)))]) cx dX6_init_72 0 rfl rfl rfl (Nat.le_of_ble_eq_true rfl) rfl ?_
  refine v_aload_n cx dX6_init_75 rfl 0 rfl ?_
  refine v_bipush (v := 16) cx dX6_init_76 (by decide) ?_
  refine v_newa (N' := 16) (ce := 9) (sl := 2210) (a0 := (16, .inl (fun _ => 0))) (atype := .int) cx wArr_int 0 rfl rfl gprim_i (fun _ => rfl) (by decide) (by decide) (by decide) ⟨rfl, rfl⟩ (by decide) (by decide) dX6_init_78 (fun q_n_18 => ?_)
  refine v_is (ws' := [(q_t, .inr (6, [.ref q_n_2, .ref q_n_4, .int 0, .ref q_n_6, .int 0, .int 0, .int 0, .ref q_n_8, .int 0, .ref q_n_10, .ref q_n_12, .ref q_n_14, .ref q_n_16, .int 0, .int (-1), .null, .null, .int 0, .long 0])), (q_n_2, .inl (cy 0, 378, .inl (fun _ => 0))), (q_n_4, .inl (cy 0, 1512, .inl (fun _ => 0))), (q_n_6, .inl (cy 0, 120, .inl (fun _ => 0))), (q_n_8, .inl (cy 0, 40, .inl (fun _ => 0))), (q_n_10, .inl (cy 0, 96, .inl (fun _ => 0))), (q_n_12, .inl (cy 0, 16, .inl (fun _ => 0))), (q_n_14, .inl (cy 3, 16, .inl (fun _ => 0))), (q_n_16, .inl (cy 0, 16, .inl (fun _ => 0))), (q_n_18, .inl (cy 0, 16, .inl (fun _ => 0)))]) rfl ?_
  refine p_X6_39 (ws' := [(q_t, .inr (6, [.ref q_n_2, .ref q_n_4, .int 0, .ref q_n_6, .int 0, .int 0, .int 0, .ref q_n_8, .int 0, .ref q_n_10, .ref q_n_12, .ref q_n_14, .ref q_n_16, .int 0, .int (-1), .ref q_n_18, .null, .int 0, .long 0])), (q_n_2, .inl (cy 0, 378, .inl (fun _ => 0))), (q_n_4, .inl (cy 0, 1512, .inl (fun _ => 0))), (q_n_6, .inl (cy 0, 120, .inl (fun _ => 0))), (q_n_8, .inl (cy 0, 40, .inl (fun _ => 0))), (q_n_10, .inl (cy 0, 96, .inl (fun _ => 0))), (q_n_12, .inl (cy 0, 16, .inl (fun _ => 0))), (q_n_14, .inl (cy 3, 16, .inl (fun _ => 0))), (q_n_16, .inl (cy 0, 16, .inl (fun _ => 0))), (q_n_18, .inl (cy 0, 16, .inl (fun _ => 0)))]) cx rfl dX6_init_80 0 rfl rfl rfl (Nat.le_of_ble_eq_true rfl) rfl ?_
  refine v_aload_n cx dX6_init_83 rfl 0 rfl ?_
  refine v_sipush (v := 800) cx dX6_init_84 (by decide) ?_
  refine v_newa (N' := 800) (ce := 10) (sl := 3010) (a0 := (800, .inl (fun _ => 0))) (atype := .int) cx wArr_int 0 rfl rfl gprim_i (fun _ => rfl) (by decide) (by decide) (by decide) ⟨rfl, rfl⟩ (by decide) (by decide) dX6_init_87 (fun q_n_20 => ?_)
  refine v_is (ws' := [(q_t, .inr (6, [.ref q_n_2, .ref q_n_4, .int 0, .ref q_n_6, .int 0, .int 0, .int 0, .ref q_n_8, .int 0, .ref q_n_10, .ref q_n_12, .ref q_n_14, .ref q_n_16, .int 0, .int (-1), .ref q_n_18, .null, .int 0, .long 0])), (q_n_2, .inl (cy 0, 378, .inl (fun _ => 0))), (q_n_4, .inl (cy 0, 1512, .inl (fun _ => 0))), (q_n_6, .inl (cy 0, 120, .inl (fun _ => 0))), (q_n_8, .inl (cy 0, 40, .inl (fun _ => 0))), (q_n_10, .inl (cy 0, 96, .inl (fun _ => 0))), (q_n_12, .inl (cy 0, 16, .inl (fun _ => 0))), (q_n_14, .inl (cy 3, 16, .inl (fun _ => 0))), (q_n_16, .inl (cy 0, 16, .inl (fun _ => 0))), (q_n_18, .inl (cy 0, 16, .inl (fun _ => 0))), (q_n_20, .inl (cy 0, 800, .inl (fun _ => 0)))]) rfl ?_
  refine p_X6_42 (ws' := [(q_t, .inr (6, [.ref q_n_2, .ref q_n_4, .int 0, .ref q_n_6, .int 0, .int 0, .int 0, .ref q_n_8, .int 0, .ref q_n_10, .ref q_n_12, .ref q_n_14, .ref q_n_16, .int 0, .int (-1), .ref q_n_18, .ref q_n_20, .int 0, .long 0])), (q_n_2, .inl (cy 0, 378, .inl (fun _ => 0))), (q_n_4, .inl (cy 0, 1512, .inl (fun _ => 0))), (q_n_6, .inl (cy 0, 120, .inl (fun _ => 0))), (q_n_8, .inl (cy 0, 40, .inl (fun _ => 0))), (q_n_10, .inl (cy 0, 96, .inl (fun _ => 0))), (q_n_12, .inl (cy 0, 16, .inl (fun _ => 0))), (q_n_14, .inl (cy 3, 16, .inl (fun _ => 0))), (q_n_16, .inl (cy 0, 16, .inl (fun _ => 0))), (q_n_18, .inl (cy 0, 16, .inl (fun _ => 0))), (q_n_20, .inl (cy 0, 800, .inl (fun _ => 0)))]) cx rfl dX6_init_89 0 rfl rfl rfl (Nat.le_of_ble_eq_true rfl) rfl ?_
  refine v_aload_n cx dX6_init_92 rfl 0 rfl ?_
  refine g_X6_7 cx dX6_init_93 0 rfl rfl ?_
  refine v_iconst (v := 1) cx dX6_init_96 (by decide) ?_
  refine v_iconst (v := 1) cx dX6_init_97 (by decide) ?_
  refine v_iast (ws' := [(q_t, .inr (6, [.ref q_n_2, .ref q_n_4, .int 0, .ref q_n_6, .int 0, .int 0, .int 0, .ref q_n_8, .int 0, .ref q_n_10, .ref q_n_12, .ref q_n_14, .ref q_n_16, .int 0, .int (-1), .ref q_n_18, .ref q_n_20, .int 0, .long 0])), (q_n_2, .inl (cy 0, 378, .inl (upd (fun _ => 0) ((1 : Int32).toNatClampNeg) 1))), (q_n_4, .inl (cy 0, 1512, .inl (fun _ => 0))), (q_n_6, .inl (cy 0, 120, .inl (fun _ => 0))), (q_n_8, .inl (cy 0, 40, .inl (fun _ => 0))), (q_n_10, .inl (cy 0, 96, .inl (fun _ => 0))), (q_n_12, .inl (cy 0, 16, .inl (fun _ => 0))), (q_n_14, .inl (cy 3, 16, .inl (fun _ => 0))), (q_n_16, .inl (cy 0, 16, .inl (fun _ => 0))), (q_n_18, .inl (cy 0, 16, .inl (fun _ => 0))), (q_n_20, .inl (cy 0, 800, .inl (fun _ => 0)))]) cx dX6_init_98 1 rfl ⟨by unfold vp_in; decide, h⟩ rfl (fun h => ?_)
  exact v_return cx dX6_init_99 ⟨_, _, _, _, _, _, _, _, _, _, rfl, rfl⟩
abbrev rm_X6_thrown : Room := { frames := 0, cells := 0, slots := 0, locals := 0 }
set_option maxHeartbeats 4000000 in
set_option maxRecDepth 100000 in
theorem c_X6_thrown (l : Launch) (g : gT) (D : va_G) (cy : Nat → ClassId) (q_t q_t_m q_t_saved q_t_text q_t_read q_t_counts q_t_scores q_t_isIn q_t_order q_t_row q_t_listing : Nat) {t_savedCount : Int32} {t_textLength : Int32} {t_code : Int32} {t_at : Int32} {t_number : Int32} {t_ranked : Int32} {t_emptySide : Int32} {t_listingLength : Int32} {t_hash : Int64} {N : Nat} {Q : Int32 → Prop} (h : p_X6_thrown N t_savedCount t_textLength t_code t_at t_number t_ranked t_emptySide t_listingLength t_hash Q) : UC l yX6_thrown cX6_thrown 1 (some .int) rm_X6_thrown g D cy [.ref q_t] [(q_t, .inr (6, [.ref q_t_m, .ref q_t_saved, .int t_savedCount, .ref q_t_text, .int t_textLength, .int t_code, .int t_at, .ref q_t_read, .int t_number, .ref q_t_counts, .ref q_t_scores, .ref q_t_isIn, .ref q_t_order, .int t_ranked, .int t_emptySide, .ref q_t_row, .ref q_t_listing, .int t_listingLength, .long t_hash]))] (fun v w => w = [(q_t, .inr (6, [.ref q_t_m, .ref q_t_saved, .int t_savedCount, .ref q_t_text, .int t_textLength, .int t_code, .int t_at, .ref q_t_read, .int t_number, .ref q_t_counts, .ref q_t_scores, .ref q_t_isIn, .ref q_t_order, .int t_ranked, .int t_emptySide, .ref q_t_row, .ref q_t_listing, .int t_listingLength, .long t_hash]))] ∧ ∃ r : Int32, v = some (.int r) ∧ Q r) := by
  refine UC_of (by decide +kernel) (Nat.le_of_ble_eq_true rfl) [(0, .ref q_t)] rfl (fun p e s m args below meth c A cx => ?_)
  unfold p_X6_thrown at h
  refine v_aload_n cx dX6_thrown_0 rfl 0 rfl ?_
  refine g_X6_45 cx dX6_thrown_1 0 rfl rfl ?_
  exact v_ireturn cx rfl dX6_thrown_4 ⟨rfl, _, rfl, h⟩
abbrev rm_X6_in : Room := { frames := 0, cells := 0, slots := 0, locals := 0 }
set_option maxHeartbeats 4000000 in
set_option maxRecDepth 100000 in
theorem c_X6_in (l : Launch) (g : gT) (D : va_G) (cy : Nat → ClassId) {x0 : Int32} {x1 : Int32} {x2 : Int32} {N : Nat} {Q : Int32 → Prop} (h : p_X6_in N x0 x1 x2 Q) : UC l yX6_in cX6_in 3 (some .boolean) rm_X6_in g D cy [.int x0, .int x1, .int x2] [] (fun v w => w = [] ∧ ∃ r : Int32, v = some (.int r) ∧ Q r) := by
  refine UC_of (by decide +kernel) (Nat.le_of_ble_eq_true rfl) [(0, .int x0), (1, .int x1), (2, .int x2)] rfl (fun p e s m args below meth c A cx => ?_)
  unfold p_X6_in at h
  refine v_iload_n cx dX6_in_0 rfl 0 rfl ?_
  refine v_iload_n cx dX6_in_1 rfl 1 rfl ?_
  refine v_icmp_lt (tgt := 14) cx dX6_in_2 (by decide) h (fun h => ?_) (fun h => ?_)
  · refine v_iconst (v := 0) cx dX6_in_14 (by decide) ?_
    exact v_ireturn cx rfl dX6_in_15 ⟨rfl, _, rfl, h⟩
  · refine v_iload_n cx dX6_in_5 rfl 0 rfl ?_
    refine v_iload_n cx dX6_in_6 rfl 2 rfl ?_
    refine v_icmp_gt (tgt := 14) cx dX6_in_7 (by decide) h (fun h => ?_) (fun h => ?_)
    · refine v_iconst (v := 0) cx dX6_in_14 (by decide) ?_
      exact v_ireturn cx rfl dX6_in_15 ⟨rfl, _, rfl, h⟩
    · refine v_iconst (v := 1) cx dX6_in_10 (by decide) ?_
      refine v_goto (tgt := 15) cx dX6_in_11 (by decide) ?_
      exact v_ireturn cx rfl dX6_in_15 ⟨rfl, _, rfl, h⟩
abbrev rm_X6_keep : Room := { frames := 0, cells := 0, slots := 0, locals := 0 }
set_option maxHeartbeats 4000000 in
set_option maxRecDepth 100000 in
theorem w_X6_keep_51 {p : Program} {l : Launch} {e : Env} {s : State} {m : MethodId} {args : Array Value} {below : List Frame} {meth : Method} {c : Code} {Q9 : State → Prop} {mn : String} {Ts : List Cond} {D : va_G} {cy : Nat → ClassId} {g : gT} {A : Nat → Prop} (cx : vC p s m args meth c cX6_keep 2 none RX6 mn Ts D cy g A) (q_t q_t_m q_t_saved q_t_text q_t_read q_t_counts q_t_scores q_t_isIn q_t_order q_t_row q_t_listing : Nat) {t_savedCount : Int32} {t_textLength : Int32} {t_code : Int32} {t_at : Int32} {t_number : Int32} {t_ranked : Int32} {t_emptySide : Int32} {t_listingLength : Int32} {t_hash : Int64} {t_m : Nat → Int32} {N : Nat} {K85 : Int32 → (Nat → Int32) → Prop} (hK85 : ∀ (x1 : Int32) (t_saved : Nat → Int32), K85 x1 t_saved → vV p l e rm_X6_keep s m args below meth c Q9 2 D A 0 0 [(q_t, .inr (6, [.ref q_t_m, .ref q_t_saved, .int t_savedCount, .ref q_t_text, .int t_textLength, .int t_code, .int t_at, .ref q_t_read, .int t_number, .ref q_t_counts, .ref q_t_scores, .ref q_t_isIn, .ref q_t_order, .int t_ranked, .int t_emptySide, .ref q_t_row, .ref q_t_listing, .int t_listingLength, .long t_hash])), (q_t_m, .inl (cy 0, 378, .inl t_m)), (q_t_saved, .inl (cy 0, 1512, .inl t_saved))] 85 [(0, .ref q_t), (1, .int x1)] []) : ∀ (n : Nat) (x1 : Int32) (t_saved : Nat → Int32), p_X6_keep_51 N t_savedCount t_textLength t_code t_at t_number t_ranked t_emptySide t_listingLength t_hash t_m K85 n x1 t_saved → vV p l e rm_X6_keep s m args below meth c Q9 2 D A 0 0 [(q_t, .inr (6, [.ref q_t_m, .ref q_t_saved, .int t_savedCount, .ref q_t_text, .int t_textLength, .int t_code, .int t_at, .ref q_t_read, .int t_number, .ref q_t_counts, .ref q_t_scores, .ref q_t_isIn, .ref q_t_order, .int t_ranked, .int t_emptySide, .ref q_t_row, .ref q_t_listing, .int t_listingLength, .long t_hash])), (q_t_m, .inl (cy 0, 378, .inl t_m)), (q_t_saved, .inl (cy 0, 1512, .inl t_saved))] 51 [(0, .ref q_t), (1, .int x1)] [] := by
  intro n
  induction n with
  | zero => intro x1 t_saved h; exact False.elim h
  | succ n ih =>
    intro x1 t_saved h
    unfold p_X6_keep_51 at h
    refine v_iload_n cx dX6_keep_51 rfl 1 rfl ?_
    refine v_sipush (v := 378) cx dX6_keep_52 (by decide) ?_
    refine v_icmp_ge (tgt := 85) cx dX6_keep_55 (by decide) h (fun h => ?_) (fun h => ?_)
    · refine v_lv (lv' := [(0, .ref q_t), (1, .int x1)]) [0, 1] rfl ?_
      exact hK85 _ _ h
    · refine v_aload_n cx dX6_keep_58 rfl 0 rfl ?_
      refine g_X6_13 cx dX6_keep_59 0 rfl rfl ?_
      refine v_sipush (v := 378) cx dX6_keep_62 (by decide) ?_
      refine v_aload_n cx dX6_keep_65 rfl 0 rfl ?_
      refine g_X6_48 cx dX6_keep_66 0 rfl rfl ?_
      refine v_imul cx dX6_keep_69 ?_
      refine v_iload_n cx dX6_keep_70 rfl 1 rfl ?_
      refine v_iadd cx dX6_keep_71 ?_
      refine v_aload_n cx dX6_keep_72 rfl 0 rfl ?_
      refine g_X6_7 cx dX6_keep_73 0 rfl rfl ?_
      refine v_iload_n cx dX6_keep_76 rfl 1 rfl ?_
      refine v_iald cx dX6_keep_77 1 rfl h (fun h => ?_)
      refine v_iast (ws' := [(q_t, .inr (6, [.ref q_t_m, .ref q_t_saved, .int t_savedCount, .ref q_t_text, .int t_textLength, .int t_code, .int t_at, .ref q_t_read, .int t_number, .ref q_t_counts, .ref q_t_scores, .ref q_t_isIn, .ref q_t_order, .int t_ranked, .int t_emptySide, .ref q_t_row, .ref q_t_listing, .int t_listingLength, .long t_hash])), (q_t_m, .inl (cy 0, 378, .inl t_m)), (q_t_saved, .inl (cy 0, 1512, .inl (upd t_saved (((378 * t_savedCount) + x1).toNatClampNeg) (t_m x1.toNatClampNeg))))]) cx dX6_keep_78 2 rfl h rfl (fun h => ?_)
      refine v_iinc (v := x1 + 1) (k0 := 1) (lv' := [(1, .int (x1 + 1)), (0, .ref q_t)]) cx dX6_keep_79 rfl rfl (by decide) rfl ?_
      refine v_goto (tgt := 51) cx dX6_keep_82 (by decide) ?_
      refine v_lv (lv' := [(0, .ref q_t), (1, .int (x1 + 1))]) [1, 0] rfl ?_
      exact ih _ _ h
set_option maxHeartbeats 4000000 in
set_option maxRecDepth 100000 in
theorem w_X6_keep_10 {p : Program} {l : Launch} {e : Env} {s : State} {m : MethodId} {args : Array Value} {below : List Frame} {meth : Method} {c : Code} {Q9 : State → Prop} {mn : String} {Ts : List Cond} {D : va_G} {cy : Nat → ClassId} {g : gT} {A : Nat → Prop} (cx : vC p s m args meth c cX6_keep 2 none RX6 mn Ts D cy g A) (q_t q_t_m q_t_saved q_t_text q_t_read q_t_counts q_t_scores q_t_isIn q_t_order q_t_row q_t_listing : Nat) {t_savedCount : Int32} {t_textLength : Int32} {t_code : Int32} {t_at : Int32} {t_number : Int32} {t_ranked : Int32} {t_emptySide : Int32} {t_listingLength : Int32} {t_hash : Int64} {t_m : Nat → Int32} {N : Nat} {K39 : Int32 → (Nat → Int32) → Prop} (hK39 : ∀ (x1 : Int32) (t_saved : Nat → Int32), K39 x1 t_saved → vV p l e rm_X6_keep s m args below meth c Q9 2 D A 0 0 [(q_t, .inr (6, [.ref q_t_m, .ref q_t_saved, .int t_savedCount, .ref q_t_text, .int t_textLength, .int t_code, .int t_at, .ref q_t_read, .int t_number, .ref q_t_counts, .ref q_t_scores, .ref q_t_isIn, .ref q_t_order, .int t_ranked, .int t_emptySide, .ref q_t_row, .ref q_t_listing, .int t_listingLength, .long t_hash])), (q_t_m, .inl (cy 0, 378, .inl t_m)), (q_t_saved, .inl (cy 0, 1512, .inl t_saved))] 39 [(0, .ref q_t), (1, .int x1)] []) : ∀ (n : Nat) (x1 : Int32) (t_saved : Nat → Int32), p_X6_keep_10 N t_savedCount t_textLength t_code t_at t_number t_ranked t_emptySide t_listingLength t_hash t_m K39 n x1 t_saved → vV p l e rm_X6_keep s m args below meth c Q9 2 D A 0 0 [(q_t, .inr (6, [.ref q_t_m, .ref q_t_saved, .int t_savedCount, .ref q_t_text, .int t_textLength, .int t_code, .int t_at, .ref q_t_read, .int t_number, .ref q_t_counts, .ref q_t_scores, .ref q_t_isIn, .ref q_t_order, .int t_ranked, .int t_emptySide, .ref q_t_row, .ref q_t_listing, .int t_listingLength, .long t_hash])), (q_t_m, .inl (cy 0, 378, .inl t_m)), (q_t_saved, .inl (cy 0, 1512, .inl t_saved))] 10 [(0, .ref q_t), (1, .int x1)] [] := by
  intro n
  induction n with
  | zero => intro x1 t_saved h; exact False.elim h
  | succ n ih =>
    intro x1 t_saved h
    unfold p_X6_keep_10 at h
    refine v_iload_n cx dX6_keep_10 rfl 1 rfl ?_
    refine v_sipush (v := 1134) cx dX6_keep_11 (by decide) ?_
    refine v_icmp_ge (tgt := 39) cx dX6_keep_14 (by decide) h (fun h => ?_) (fun h => ?_)
    · refine v_lv (lv' := [(0, .ref q_t), (1, .int x1)]) [0, 1] rfl ?_
      exact hK39 _ _ h
    · refine v_aload_n cx dX6_keep_17 rfl 0 rfl ?_
      refine g_X6_13 cx dX6_keep_18 0 rfl rfl ?_
      refine v_iload_n cx dX6_keep_21 rfl 1 rfl ?_
      refine v_aload_n cx dX6_keep_22 rfl 0 rfl ?_
      refine g_X6_13 cx dX6_keep_23 0 rfl rfl ?_
      refine v_iload_n cx dX6_keep_26 rfl 1 rfl ?_
      refine v_sipush (v := 378) cx dX6_keep_27 (by decide) ?_
      refine v_iadd cx dX6_keep_30 ?_
      refine v_iald cx dX6_keep_31 2 rfl h (fun h => ?_)
      refine v_iast (ws' := [(q_t, .inr (6, [.ref q_t_m, .ref q_t_saved, .int t_savedCount, .ref q_t_text, .int t_textLength, .int t_code, .int t_at, .ref q_t_read, .int t_number, .ref q_t_counts, .ref q_t_scores, .ref q_t_isIn, .ref q_t_order, .int t_ranked, .int t_emptySide, .ref q_t_row, .ref q_t_listing, .int t_listingLength, .long t_hash])), (q_t_m, .inl (cy 0, 378, .inl t_m)), (q_t_saved, .inl (cy 0, 1512, .inl (upd t_saved x1.toNatClampNeg (t_saved (x1 + 378).toNatClampNeg))))]) cx dX6_keep_32 2 rfl h rfl (fun h => ?_)
      refine v_iinc (v := x1 + 1) (k0 := 1) (lv' := [(1, .int (x1 + 1)), (0, .ref q_t)]) cx dX6_keep_33 rfl rfl (by decide) rfl ?_
      refine v_goto (tgt := 10) cx dX6_keep_36 (by decide) ?_
      refine v_lv (lv' := [(0, .ref q_t), (1, .int (x1 + 1))]) [1, 0] rfl ?_
      exact ih _ _ h
set_option maxHeartbeats 4000000 in
set_option maxRecDepth 100000 in
theorem c_X6_keep (l : Launch) (g : gT) (D : va_G) (cy : Nat → ClassId) (q_t q_t_m q_t_saved q_t_text q_t_read q_t_counts q_t_scores q_t_isIn q_t_order q_t_row q_t_listing : Nat) {t_savedCount : Int32} {t_textLength : Int32} {t_code : Int32} {t_at : Int32} {t_number : Int32} {t_ranked : Int32} {t_emptySide : Int32} {t_listingLength : Int32} {t_hash : Int64} {t_m : Nat → Int32} {t_saved : Nat → Int32} {N : Nat} {Q : Int32 → (Nat → Int32) → Prop} (h : p_X6_keep N t_savedCount t_textLength t_code t_at t_number t_ranked t_emptySide t_listingLength t_hash t_m t_saved Q) : UC l yX6_keep cX6_keep 2 none rm_X6_keep g D cy [.ref q_t] [(q_t, .inr (6, [.ref q_t_m, .ref q_t_saved, .int t_savedCount, .ref q_t_text, .int t_textLength, .int t_code, .int t_at, .ref q_t_read, .int t_number, .ref q_t_counts, .ref q_t_scores, .ref q_t_isIn, .ref q_t_order, .int t_ranked, .int t_emptySide, .ref q_t_row, .ref q_t_listing, .int t_listingLength, .long t_hash])), (q_t_m, .inl (cy 0, 378, .inl t_m)), (q_t_saved, .inl (cy 0, 1512, .inl t_saved))] (fun v w => ∃ (t_savedCount' : Int32) (t_saved' : Nat → Int32), v = none ∧ w = [(q_t, .inr (6, [.ref q_t_m, .ref q_t_saved, .int t_savedCount', .ref q_t_text, .int t_textLength, .int t_code, .int t_at, .ref q_t_read, .int t_number, .ref q_t_counts, .ref q_t_scores, .ref q_t_isIn, .ref q_t_order, .int t_ranked, .int t_emptySide, .ref q_t_row, .ref q_t_listing, .int t_listingLength, .long t_hash])), (q_t_m, .inl (cy 0, 378, .inl t_m)), (q_t_saved, .inl (cy 0, 1512, .inl t_saved'))] ∧ Q t_savedCount' t_saved') := by
  refine UC_of (by decide +kernel) (Nat.le_of_ble_eq_true rfl) [(0, .ref q_t)] rfl (fun p e s m args below meth c A cx => ?_)
  unfold p_X6_keep at h
  refine v_aload_n cx dX6_keep_0 rfl 0 rfl ?_
  refine g_X6_48 cx dX6_keep_1 0 rfl rfl ?_
  refine v_iconst (v := 4) cx dX6_keep_4 (by decide) ?_
  refine v_icmp_ne (tgt := 49) cx dX6_keep_5 (by decide) h (fun h => ?_) (fun h => ?_)
  · refine v_iconst (v := 0) cx dX6_keep_49 (by decide) ?_
    refine v_istore_n (lv' := [(1, .int 0), (0, .ref q_t)]) cx dX6_keep_50 rfl (by decide) rfl ?_
    refine v_lv (lv' := [(0, .ref q_t), (1, .int 0)]) [1, 0] rfl ?_
    refine w_X6_keep_51 cx q_t q_t_m q_t_saved q_t_text q_t_read q_t_counts q_t_scores q_t_isIn q_t_order q_t_row q_t_listing ?_ N _ _ h
    · intro x1_1 t_saved_2 h
      refine v_aload_n cx dX6_keep_85 rfl 0 rfl ?_
      refine v_dup cx dX6_keep_86 rfl ?_
      refine g_X6_48 cx dX6_keep_87 0 rfl rfl ?_
      refine v_iconst (v := 1) cx dX6_keep_90 (by decide) ?_
      refine v_iadd cx dX6_keep_91 ?_
      refine p_X6_48 (ws' := [(q_t, .inr (6, [.ref q_t_m, .ref q_t_saved, .int (t_savedCount + 1), .ref q_t_text, .int t_textLength, .int t_code, .int t_at, .ref q_t_read, .int t_number, .ref q_t_counts, .ref q_t_scores, .ref q_t_isIn, .ref q_t_order, .int t_ranked, .int t_emptySide, .ref q_t_row, .ref q_t_listing, .int t_listingLength, .long t_hash])), (q_t_m, .inl (cy 0, 378, .inl t_m)), (q_t_saved, .inl (cy 0, 1512, .inl t_saved_2))]) cx dX6_keep_92 0 rfl rfl rfl (Nat.le_of_ble_eq_true rfl) rfl ?_
      exact v_return cx dX6_keep_95 ⟨_, _, rfl, rfl, h⟩
  · refine v_iconst (v := 0) cx dX6_keep_8 (by decide) ?_
    refine v_istore_n (lv' := [(1, .int 0), (0, .ref q_t)]) cx dX6_keep_9 rfl (by decide) rfl ?_
    refine v_lv (lv' := [(0, .ref q_t), (1, .int 0)]) [1, 0] rfl ?_
    refine w_X6_keep_10 cx q_t q_t_m q_t_saved q_t_text q_t_read q_t_counts q_t_scores q_t_isIn q_t_order q_t_row q_t_listing ?_ N _ _ h
    · intro x1_3 t_saved_4 h
      refine v_aload_n cx dX6_keep_39 rfl 0 rfl ?_
      refine v_dup cx dX6_keep_40 rfl ?_
      refine g_X6_48 cx dX6_keep_41 0 rfl rfl ?_
      refine v_iconst (v := 1) cx dX6_keep_44 (by decide) ?_
      refine v_isub cx dX6_keep_45 ?_
      refine p_X6_48 (ws' := [(q_t, .inr (6, [.ref q_t_m, .ref q_t_saved, .int (t_savedCount - 1), .ref q_t_text, .int t_textLength, .int t_code, .int t_at, .ref q_t_read, .int t_number, .ref q_t_counts, .ref q_t_scores, .ref q_t_isIn, .ref q_t_order, .int t_ranked, .int t_emptySide, .ref q_t_row, .ref q_t_listing, .int t_listingLength, .long t_hash])), (q_t_m, .inl (cy 0, 378, .inl t_m)), (q_t_saved, .inl (cy 0, 1512, .inl t_saved_4))]) cx dX6_keep_46 0 rfl rfl rfl (Nat.le_of_ble_eq_true rfl) rfl ?_
      refine v_iconst (v := 0) cx dX6_keep_49 (by decide) ?_
      refine v_istore_n (lv' := [(1, .int 0), (0, .ref q_t)]) cx dX6_keep_50 rfl (by decide) rfl ?_
      refine v_lv (lv' := [(0, .ref q_t), (1, .int 0)]) [1, 0] rfl ?_
      refine w_X6_keep_51 cx q_t q_t_m q_t_saved q_t_text q_t_read q_t_counts q_t_scores q_t_isIn q_t_order q_t_row q_t_listing ?_ N _ _ h
      · intro x1_5 t_saved_6 h
        refine v_aload_n cx dX6_keep_85 rfl 0 rfl ?_
        refine v_dup cx dX6_keep_86 rfl ?_
        refine g_X6_48 cx dX6_keep_87 0 rfl rfl ?_
        refine v_iconst (v := 1) cx dX6_keep_90 (by decide) ?_
        refine v_iadd cx dX6_keep_91 ?_
        refine p_X6_48 (ws' := [(q_t, .inr (6, [.ref q_t_m, .ref q_t_saved, .int ((t_savedCount - 1) + 1), .ref q_t_text, .int t_textLength, .int t_code, .int t_at, .ref q_t_read, .int t_number, .ref q_t_counts, .ref q_t_scores, .ref q_t_isIn, .ref q_t_order, .int t_ranked, .int t_emptySide, .ref q_t_row, .ref q_t_listing, .int t_listingLength, .long t_hash])), (q_t_m, .inl (cy 0, 378, .inl t_m)), (q_t_saved, .inl (cy 0, 1512, .inl t_saved_6))]) cx dX6_keep_92 0 rfl rfl rfl (Nat.le_of_ble_eq_true rfl) rfl ?_
        exact v_return cx dX6_keep_95 ⟨_, _, rfl, rfl, h⟩
abbrev rm_X6_isVariant : Room := { frames := 1, cells := 0, slots := 0, locals := 22 }
set_option maxHeartbeats 4000000 in
set_option maxRecDepth 100000 in
theorem c_X6_isVariant (l : Launch) (g : gT) (D : va_G) (cy : Nat → ClassId) (q_t q_t_m q_t_saved q_t_text q_t_read q_t_counts q_t_scores q_t_isIn q_t_order q_t_row q_t_listing : Nat) {t_savedCount : Int32} {t_textLength : Int32} {t_code : Int32} {t_at : Int32} {t_number : Int32} {t_ranked : Int32} {t_emptySide : Int32} {t_listingLength : Int32} {t_hash : Int64} {t_m : Nat → Int32} {x1 : Int32} {N : Nat} {Q : Int32 → Prop} (h : p_X6_isVariant N t_savedCount t_textLength t_code t_at t_number t_ranked t_emptySide t_listingLength t_hash t_m x1 Q) : UC l yX6_isVariant cX6_isVariant 2 (some .boolean) rm_X6_isVariant g D cy [.ref q_t, .int x1] [(q_t, .inr (6, [.ref q_t_m, .ref q_t_saved, .int t_savedCount, .ref q_t_text, .int t_textLength, .int t_code, .int t_at, .ref q_t_read, .int t_number, .ref q_t_counts, .ref q_t_scores, .ref q_t_isIn, .ref q_t_order, .int t_ranked, .int t_emptySide, .ref q_t_row, .ref q_t_listing, .int t_listingLength, .long t_hash])), (q_t_m, .inl (cy 0, 378, .inl t_m))] (fun v w => w = [(q_t, .inr (6, [.ref q_t_m, .ref q_t_saved, .int t_savedCount, .ref q_t_text, .int t_textLength, .int t_code, .int t_at, .ref q_t_read, .int t_number, .ref q_t_counts, .ref q_t_scores, .ref q_t_isIn, .ref q_t_order, .int t_ranked, .int t_emptySide, .ref q_t_row, .ref q_t_listing, .int t_listingLength, .long t_hash])), (q_t_m, .inl (cy 0, 378, .inl t_m))] ∧ ∃ r : Int32, v = some (.int r) ∧ Q r) := by
  refine UC_of (by decide +kernel) (Nat.le_of_ble_eq_true rfl) [(0, .ref q_t), (1, .int x1)] rfl (fun p e s m args below meth c A cx => ?_)
  unfold p_X6_isVariant at h
  refine v_iload_n cx dX6_isVariant_0 rfl 1 rfl ?_
  refine v_iconst (v := 0) cx dX6_isVariant_1 (by decide) ?_
  refine v_aload_n cx dX6_isVariant_2 rfl 0 rfl ?_
  refine g_X6_7 cx dX6_isVariant_3 0 rfl rfl ?_
  refine v_iconst (v := 0) cx dX6_isVariant_6 (by decide) ?_
  refine v_iald cx dX6_isVariant_7 1 rfl ⟨by unfold vp_in; decide, h⟩ (fun h => ?_)
  refine v_iconst (v := 1) cx dX6_isVariant_8 (by decide) ?_
  refine v_isub cx dX6_isVariant_9 ?_
  refine v_callSpi (As := [.int x1, .int 0, .int ((t_m (0 : Int32).toNatClampNeg) - 1)]) cx (c_X6_in l g D cy  h) k_X6_51 (by decide) ⟨rfl, rfl⟩ (by decide) rfl rfl (Nat.le_of_ble_eq_true rfl) dX6_isVariant_10 [] [0, 1] (by decide) (vj_all 2 rfl (by decide +kernel)) rfl rfl rfl (fun r_1 h => ?_)
  exact v_ireturn cx (congrArg Value.int h.1) dX6_isVariant_13 ⟨rfl, _, rfl, h.2⟩
abbrev rm_X6_isList : Room := { frames := 1, cells := 0, slots := 0, locals := 22 }
set_option maxHeartbeats 4000000 in
set_option maxRecDepth 100000 in
theorem c_X6_isList (l : Launch) (g : gT) (D : va_G) (cy : Nat → ClassId) {x0 : Int32} {x1 : Int32} {N : Nat} {Q : Int32 → Prop} (h : p_X6_isList N x0 x1 Q) : UC l yX6_isList cX6_isList 2 (some .boolean) rm_X6_isList g D cy [.int x0, .int x1] [] (fun v w => w = [] ∧ ∃ r : Int32, v = some (.int r) ∧ Q r) := by
  refine UC_of (by decide +kernel) (Nat.le_of_ble_eq_true rfl) [(0, .int x0), (1, .int x1)] rfl (fun p e s m args below meth c A cx => ?_)
  unfold p_X6_isList at h
  refine v_iload_n cx dX6_isList_0 rfl 0 rfl ?_
  refine v_iconst (v := 0) cx dX6_isList_1 (by decide) ?_
  refine v_iconst (v := 1) cx dX6_isList_2 (by decide) ?_
  refine v_callSpi (As := [.int x0, .int 0, .int 1]) cx (c_X6_in l g D cy  h) k_X6_51 (by decide) ⟨rfl, rfl⟩ (by decide) rfl rfl (Nat.le_of_ble_eq_true rfl) dX6_isList_3 [] [] (by decide) (vj_all 0 rfl (by decide +kernel)) rfl rfl rfl (fun r_1 h => ?_)
  refine v_if_eq (tgt := 22) cx dX6_isList_6 (by decide) h (fun h => ?_) (fun h => ?_)
  · refine v_iconst (v := 0) cx dX6_isList_22 (by decide) ?_
    exact v_ireturn cx rfl dX6_isList_23 ⟨rfl, _, rfl, h⟩
  · refine v_iload_n cx dX6_isList_9 rfl 1 rfl ?_
    refine v_iconst (v := 0) cx dX6_isList_10 (by decide) ?_
    refine v_iconst (v := 2) cx dX6_isList_11 (by decide) ?_
    refine v_callSpi (As := [.int x1, .int 0, .int 2]) cx (c_X6_in l g D cy  h) k_X6_51 (by decide) ⟨rfl, rfl⟩ (by decide) rfl rfl (Nat.le_of_ble_eq_true rfl) dX6_isList_12 [] [] (by decide) (vj_all 0 rfl (by decide +kernel)) rfl rfl rfl (fun r_2 h => ?_)
    refine v_if_eq (tgt := 22) cx dX6_isList_15 (by decide) h (fun h => ?_) (fun h => ?_)
    · refine v_iconst (v := 0) cx dX6_isList_22 (by decide) ?_
      exact v_ireturn cx rfl dX6_isList_23 ⟨rfl, _, rfl, h⟩
    · refine v_iconst (v := 1) cx dX6_isList_18 (by decide) ?_
      refine v_goto (tgt := 23) cx dX6_isList_19 (by decide) ?_
      exact v_ireturn cx rfl dX6_isList_23 ⟨rfl, _, rfl, h⟩
abbrev rm_X6_listOf : Room := { frames := 0, cells := 0, slots := 0, locals := 0 }
set_option maxHeartbeats 4000000 in
set_option maxRecDepth 100000 in
theorem c_X6_listOf (l : Launch) (g : gT) (D : va_G) (cy : Nat → ClassId) {x0 : Int32} {x1 : Int32} {N : Nat} {Q : Int32 → Prop} (h : p_X6_listOf N x0 x1 Q) : UC l yX6_listOf cX6_listOf 2 (some .int) rm_X6_listOf g D cy [.int x0, .int x1] [] (fun v w => w = [] ∧ ∃ r : Int32, v = some (.int r) ∧ Q r) := by
  refine UC_of (by decide +kernel) (Nat.le_of_ble_eq_true rfl) [(0, .int x0), (1, .int x1)] rfl (fun p e s m args below meth c A cx => ?_)
  unfold p_X6_listOf at h
  refine v_iconst (v := 3) cx dX6_listOf_0 (by decide) ?_
  refine v_iload_n cx dX6_listOf_1 rfl 0 rfl ?_
  refine v_imul cx dX6_listOf_2 ?_
  refine v_iload_n cx dX6_listOf_3 rfl 1 rfl ?_
  refine v_iadd cx dX6_listOf_4 ?_
  exact v_ireturn cx rfl dX6_listOf_5 ⟨rfl, _, rfl, h⟩
abbrev rm_X6_isEntry : Room := { frames := 2, cells := 0, slots := 0, locals := 43 }
set_option maxHeartbeats 4000000 in
set_option maxRecDepth 100000 in
theorem c_X6_isEntry (l : Launch) (g : gT) (D : va_G) (cy : Nat → ClassId) (q_t q_t_m q_t_saved q_t_text q_t_read q_t_counts q_t_scores q_t_isIn q_t_order q_t_row q_t_listing : Nat) {t_savedCount : Int32} {t_textLength : Int32} {t_code : Int32} {t_at : Int32} {t_number : Int32} {t_ranked : Int32} {t_emptySide : Int32} {t_listingLength : Int32} {t_hash : Int64} {t_m : Nat → Int32} {x1 : Int32} {x2 : Int32} {x3 : Int32} {N : Nat} {Q : Int32 → Prop} (h : p_X6_isEntry N t_savedCount t_textLength t_code t_at t_number t_ranked t_emptySide t_listingLength t_hash t_m x1 x2 x3 Q) : UC l yX6_isEntry cX6_isEntry 4 (some .boolean) rm_X6_isEntry g D cy [.ref q_t, .int x1, .int x2, .int x3] [(q_t, .inr (6, [.ref q_t_m, .ref q_t_saved, .int t_savedCount, .ref q_t_text, .int t_textLength, .int t_code, .int t_at, .ref q_t_read, .int t_number, .ref q_t_counts, .ref q_t_scores, .ref q_t_isIn, .ref q_t_order, .int t_ranked, .int t_emptySide, .ref q_t_row, .ref q_t_listing, .int t_listingLength, .long t_hash])), (q_t_m, .inl (cy 0, 378, .inl t_m))] (fun v w => w = [(q_t, .inr (6, [.ref q_t_m, .ref q_t_saved, .int t_savedCount, .ref q_t_text, .int t_textLength, .int t_code, .int t_at, .ref q_t_read, .int t_number, .ref q_t_counts, .ref q_t_scores, .ref q_t_isIn, .ref q_t_order, .int t_ranked, .int t_emptySide, .ref q_t_row, .ref q_t_listing, .int t_listingLength, .long t_hash])), (q_t_m, .inl (cy 0, 378, .inl t_m))] ∧ ∃ r : Int32, v = some (.int r) ∧ Q r) := by
  refine UC_of (by decide +kernel) (Nat.le_of_ble_eq_true rfl) [(0, .ref q_t), (1, .int x1), (2, .int x2), (3, .int x3)] rfl (fun p e s m args below meth c A cx => ?_)
  unfold p_X6_isEntry at h
  refine v_iload_n cx dX6_isEntry_0 rfl 1 rfl ?_
  refine v_iload_n cx dX6_isEntry_1 rfl 2 rfl ?_
  refine v_callSpi (As := [.int x1, .int x2]) cx (c_X6_isList l g D cy  h) k_X6_55 (by decide) ⟨rfl, rfl⟩ (by decide) rfl rfl (Nat.le_of_ble_eq_true rfl) dX6_isEntry_2 [] [0, 1] (by decide) (vj_all 2 rfl (by decide +kernel)) rfl rfl rfl (fun r_1 h => ?_)
  refine v_if_eq (tgt := 34) cx dX6_isEntry_5 (by decide) h (fun h => ?_) (fun h => ?_)
  · refine v_iconst (v := 0) cx dX6_isEntry_34 (by decide) ?_
    exact v_ireturn cx rfl dX6_isEntry_35 ⟨rfl, _, rfl, h⟩
  · refine v_iload_n cx dX6_isEntry_8 rfl 3 rfl ?_
    refine v_iconst (v := 0) cx dX6_isEntry_9 (by decide) ?_
    refine v_aload_n cx dX6_isEntry_10 rfl 0 rfl ?_
    refine g_X6_7 cx dX6_isEntry_11 0 rfl rfl ?_
    refine v_iconst (v := 4) cx dX6_isEntry_14 (by decide) ?_
    refine v_iload_n cx dX6_isEntry_15 rfl 1 rfl ?_
    refine v_iload_n cx dX6_isEntry_16 rfl 2 rfl ?_
    refine v_callSpi (As := [.int x1, .int x2]) cx (c_X6_listOf l g D cy  h) k_X6_59 (by decide) ⟨rfl, rfl⟩ (by decide) rfl rfl (Nat.le_of_ble_eq_true rfl) dX6_isEntry_17 [] [0, 1] (by decide) (vj_all 2 rfl (by decide +kernel)) rfl rfl rfl (fun r_2 h => ?_)
    refine v_iadd cx dX6_isEntry_20 ?_
    refine v_iald cx dX6_isEntry_21 1 rfl h (fun h => ?_)
    refine v_iconst (v := 1) cx dX6_isEntry_22 (by decide) ?_
    refine v_isub cx dX6_isEntry_23 ?_
    refine v_callSpi (As := [.int x3, .int 0, .int ((t_m (4 + r_2).toNatClampNeg) - 1)]) cx (c_X6_in l g D cy  h) k_X6_51 (by decide) ⟨rfl, rfl⟩ (by decide) rfl rfl (Nat.le_of_ble_eq_true rfl) dX6_isEntry_24 [] [0, 1] (by decide) (vj_all 2 rfl (by decide +kernel)) rfl rfl rfl (fun r_3 h => ?_)
    refine v_if_eq (tgt := 34) cx dX6_isEntry_27 (by decide) h (fun h => ?_) (fun h => ?_)
    · refine v_iconst (v := 0) cx dX6_isEntry_34 (by decide) ?_
      exact v_ireturn cx rfl dX6_isEntry_35 ⟨rfl, _, rfl, h⟩
    · refine v_iconst (v := 1) cx dX6_isEntry_30 (by decide) ?_
      refine v_goto (tgt := 35) cx dX6_isEntry_31 (by decide) ?_
      exact v_ireturn cx rfl dX6_isEntry_35 ⟨rfl, _, rfl, h⟩
abbrev rm_X6_of : Room := { frames := 0, cells := 0, slots := 0, locals := 0 }
set_option maxHeartbeats 4000000 in
set_option maxRecDepth 100000 in
theorem c_X6_of (l : Launch) (g : gT) (D : va_G) (cy : Nat → ClassId) (q_t q_t_m q_t_saved q_t_text q_t_read q_t_counts q_t_scores q_t_isIn q_t_order q_t_row q_t_listing : Nat) {t_savedCount : Int32} {t_textLength : Int32} {t_code : Int32} {t_at : Int32} {t_number : Int32} {t_ranked : Int32} {t_emptySide : Int32} {t_listingLength : Int32} {t_hash : Int64} {t_m : Nat → Int32} {x1 : Int32} {x2 : Int32} {N : Nat} {Q : Int32 → Prop} (h : p_X6_of N t_savedCount t_textLength t_code t_at t_number t_ranked t_emptySide t_listingLength t_hash t_m x1 x2 Q) : UC l yX6_of cX6_of 3 (some .int) rm_X6_of g D cy [.ref q_t, .int x1, .int x2] [(q_t, .inr (6, [.ref q_t_m, .ref q_t_saved, .int t_savedCount, .ref q_t_text, .int t_textLength, .int t_code, .int t_at, .ref q_t_read, .int t_number, .ref q_t_counts, .ref q_t_scores, .ref q_t_isIn, .ref q_t_order, .int t_ranked, .int t_emptySide, .ref q_t_row, .ref q_t_listing, .int t_listingLength, .long t_hash])), (q_t_m, .inl (cy 0, 378, .inl t_m))] (fun v w => w = [(q_t, .inr (6, [.ref q_t_m, .ref q_t_saved, .int t_savedCount, .ref q_t_text, .int t_textLength, .int t_code, .int t_at, .ref q_t_read, .int t_number, .ref q_t_counts, .ref q_t_scores, .ref q_t_isIn, .ref q_t_order, .int t_ranked, .int t_emptySide, .ref q_t_row, .ref q_t_listing, .int t_listingLength, .long t_hash])), (q_t_m, .inl (cy 0, 378, .inl t_m))] ∧ ∃ r : Int32, v = some (.int r) ∧ Q r) := by
  refine UC_of (by decide +kernel) (Nat.le_of_ble_eq_true rfl) [(0, .ref q_t), (1, .int x1), (2, .int x2)] rfl (fun p e s m args below meth c A cx => ?_)
  unfold p_X6_of at h
  refine v_aload_n cx dX6_of_0 rfl 0 rfl ?_
  refine g_X6_7 cx dX6_of_1 0 rfl rfl ?_
  refine v_bipush (v := 10) cx dX6_of_4 (by decide) ?_
  refine v_bipush (v := 8) cx dX6_of_6 (by decide) ?_
  refine v_iload_n cx dX6_of_8 rfl 1 rfl ?_
  refine v_imul cx dX6_of_9 ?_
  refine v_iadd cx dX6_of_10 ?_
  refine v_iload_n cx dX6_of_11 rfl 2 rfl ?_
  refine v_iadd cx dX6_of_12 ?_
  refine v_iald cx dX6_of_13 1 rfl h (fun h => ?_)
  exact v_ireturn cx rfl dX6_of_14 ⟨rfl, _, rfl, h⟩
abbrev rm_X6_ofEntry : Room := { frames := 0, cells := 0, slots := 0, locals := 0 }
set_option maxHeartbeats 4000000 in
set_option maxRecDepth 100000 in
theorem c_X6_ofEntry (l : Launch) (g : gT) (D : va_G) (cy : Nat → ClassId) (q_t q_t_m q_t_saved q_t_text q_t_read q_t_counts q_t_scores q_t_isIn q_t_order q_t_row q_t_listing : Nat) {t_savedCount : Int32} {t_textLength : Int32} {t_code : Int32} {t_at : Int32} {t_number : Int32} {t_ranked : Int32} {t_emptySide : Int32} {t_listingLength : Int32} {t_hash : Int64} {t_m : Nat → Int32} {x1 : Int32} {x2 : Int32} {x3 : Int32} {N : Nat} {Q : Int32 → Prop} (h : p_X6_ofEntry N t_savedCount t_textLength t_code t_at t_number t_ranked t_emptySide t_listingLength t_hash t_m x1 x2 x3 Q) : UC l yX6_ofEntry cX6_ofEntry 4 (some .int) rm_X6_ofEntry g D cy [.ref q_t, .int x1, .int x2, .int x3] [(q_t, .inr (6, [.ref q_t_m, .ref q_t_saved, .int t_savedCount, .ref q_t_text, .int t_textLength, .int t_code, .int t_at, .ref q_t_read, .int t_number, .ref q_t_counts, .ref q_t_scores, .ref q_t_isIn, .ref q_t_order, .int t_ranked, .int t_emptySide, .ref q_t_row, .ref q_t_listing, .int t_listingLength, .long t_hash])), (q_t_m, .inl (cy 0, 378, .inl t_m))] (fun v w => w = [(q_t, .inr (6, [.ref q_t_m, .ref q_t_saved, .int t_savedCount, .ref q_t_text, .int t_textLength, .int t_code, .int t_at, .ref q_t_read, .int t_number, .ref q_t_counts, .ref q_t_scores, .ref q_t_isIn, .ref q_t_order, .int t_ranked, .int t_emptySide, .ref q_t_row, .ref q_t_listing, .int t_listingLength, .long t_hash])), (q_t_m, .inl (cy 0, 378, .inl t_m))] ∧ ∃ r : Int32, v = some (.int r) ∧ Q r) := by
  refine UC_of (by decide +kernel) (Nat.le_of_ble_eq_true rfl) [(0, .ref q_t), (1, .int x1), (2, .int x2), (3, .int x3)] rfl (fun p e s m args below meth c A cx => ?_)
  unfold p_X6_ofEntry at h
  refine v_aload_n cx dX6_ofEntry_0 rfl 0 rfl ?_
  refine g_X6_7 cx dX6_ofEntry_1 0 rfl rfl ?_
  refine v_sipush (v := 138) cx dX6_ofEntry_4 (by decide) ?_
  refine v_bipush (v := 40) cx dX6_ofEntry_7 (by decide) ?_
  refine v_iload_n cx dX6_ofEntry_9 rfl 1 rfl ?_
  refine v_imul cx dX6_ofEntry_10 ?_
  refine v_iadd cx dX6_ofEntry_11 ?_
  refine v_iconst (v := 4) cx dX6_ofEntry_12 (by decide) ?_
  refine v_iload_n cx dX6_ofEntry_13 rfl 2 rfl ?_
  refine v_imul cx dX6_ofEntry_14 ?_
  refine v_iadd cx dX6_ofEntry_15 ?_
  refine v_iload_n cx dX6_ofEntry_16 rfl 3 rfl ?_
  refine v_iadd cx dX6_ofEntry_17 ?_
  refine v_iald cx dX6_ofEntry_18 1 rfl h (fun h => ?_)
  exact v_ireturn cx rfl dX6_ofEntry_19 ⟨rfl, _, rfl, h⟩
abbrev rm_X6_type : Room := { frames := 1, cells := 0, slots := 0, locals := 22 }
set_option maxHeartbeats 4000000 in
set_option maxRecDepth 100000 in
theorem c_X6_type (l : Launch) (g : gT) (D : va_G) (cy : Nat → ClassId) (q_t q_t_m q_t_saved q_t_text q_t_read q_t_counts q_t_scores q_t_isIn q_t_order q_t_row q_t_listing : Nat) {t_savedCount : Int32} {t_textLength : Int32} {t_code : Int32} {t_at : Int32} {t_number : Int32} {t_ranked : Int32} {t_emptySide : Int32} {t_listingLength : Int32} {t_hash : Int64} {t_text : Nat → Int32} {x1 : Int32} {N : Nat} {Q : Int32 → Int32 → Int32 → (Nat → Int32) → Prop} (h : p_X6_type N t_savedCount t_textLength t_code t_at t_number t_ranked t_emptySide t_listingLength t_hash t_text x1 Q) : UC l yX6_type cX6_type 2 (some .int) rm_X6_type g D cy [.ref q_t, .int x1] [(q_t, .inr (6, [.ref q_t_m, .ref q_t_saved, .int t_savedCount, .ref q_t_text, .int t_textLength, .int t_code, .int t_at, .ref q_t_read, .int t_number, .ref q_t_counts, .ref q_t_scores, .ref q_t_isIn, .ref q_t_order, .int t_ranked, .int t_emptySide, .ref q_t_row, .ref q_t_listing, .int t_listingLength, .long t_hash])), (q_t_text, .inl (cy 0, 120, .inl t_text))] (fun v w => ∃ (r : Int32) (t_textLength' : Int32) (t_code' : Int32) (t_text' : Nat → Int32), v = some (.int r) ∧ w = [(q_t, .inr (6, [.ref q_t_m, .ref q_t_saved, .int t_savedCount, .ref q_t_text, .int t_textLength', .int t_code', .int t_at, .ref q_t_read, .int t_number, .ref q_t_counts, .ref q_t_scores, .ref q_t_isIn, .ref q_t_order, .int t_ranked, .int t_emptySide, .ref q_t_row, .ref q_t_listing, .int t_listingLength, .long t_hash])), (q_t_text, .inl (cy 0, 120, .inl t_text'))] ∧ Q r t_textLength' t_code' t_text') := by
  refine UC_of (by decide +kernel) (Nat.le_of_ble_eq_true rfl) [(0, .ref q_t), (1, .int x1)] rfl (fun p e s m args below meth c A cx => ?_)
  unfold p_X6_type at h
  refine v_aload_n cx dX6_type_0 rfl 0 rfl ?_
  refine v_iload_n cx dX6_type_1 rfl 1 rfl ?_
  refine v_iconst (v := 0) cx dX6_type_2 (by decide) ?_
  refine v_bipush (v := 127) cx dX6_type_3 (by decide) ?_
  refine v_callSpi (As := [.int x1, .int 0, .int 127]) cx (c_X6_in l g D cy  h) k_X6_51 (by decide) ⟨rfl, rfl⟩ (by decide) rfl rfl (Nat.le_of_ble_eq_true rfl) dX6_type_5 [] [0, 1] (by decide) (vj_all 2 rfl (by decide +kernel)) rfl rfl rfl (fun r_1 h => ?_)
  refine v_if_ne (tgt := 15) cx dX6_type_8 (by decide) h (fun h => ?_) (fun h => ?_)
  · refine v_aload_n cx dX6_type_15 rfl 0 rfl ?_
    refine g_X6_63 cx dX6_type_16 0 rfl rfl ?_
    refine v_bipush (v := 120) cx dX6_type_19 (by decide) ?_
    refine v_icmp_ne (tgt := 28) cx dX6_type_21 (by decide) h (fun h => ?_) (fun h => ?_)
    · refine v_iconst (v := 0) cx dX6_type_28 (by decide) ?_
      refine p_X6_45 (ws' := [(q_t, .inr (6, [.ref q_t_m, .ref q_t_saved, .int t_savedCount, .ref q_t_text, .int t_textLength, .int 0, .int t_at, .ref q_t_read, .int t_number, .ref q_t_counts, .ref q_t_scores, .ref q_t_isIn, .ref q_t_order, .int t_ranked, .int t_emptySide, .ref q_t_row, .ref q_t_listing, .int t_listingLength, .long t_hash])), (q_t_text, .inl (cy 0, 120, .inl t_text))]) cx dX6_type_29 0 rfl rfl rfl (Nat.le_of_ble_eq_true rfl) rfl ?_
      refine v_aload_n cx dX6_type_32 rfl 0 rfl ?_
      refine g_X6_45 cx dX6_type_33 0 rfl rfl ?_
      refine v_if_eq (tgt := 41) (P1 := True) (P2 := False) cx dX6_type_36 (by decide) (by decide) (fun _ => ?_) (fun z => z.elim)
      refine v_aload_n cx dX6_type_41 rfl 0 rfl ?_
      refine g_X6_16 cx dX6_type_42 0 rfl rfl ?_
      refine v_aload_n cx dX6_type_45 rfl 0 rfl ?_
      refine g_X6_63 cx dX6_type_46 0 rfl rfl ?_
      refine v_iload_n cx dX6_type_49 rfl 1 rfl ?_
      refine v_iast (ws' := [(q_t, .inr (6, [.ref q_t_m, .ref q_t_saved, .int t_savedCount, .ref q_t_text, .int t_textLength, .int 0, .int t_at, .ref q_t_read, .int t_number, .ref q_t_counts, .ref q_t_scores, .ref q_t_isIn, .ref q_t_order, .int t_ranked, .int t_emptySide, .ref q_t_row, .ref q_t_listing, .int t_listingLength, .long t_hash])), (q_t_text, .inl (cy 0, 120, .inl (upd t_text t_textLength.toNatClampNeg x1)))]) cx dX6_type_50 1 rfl h rfl (fun h => ?_)
      refine v_aload_n cx dX6_type_51 rfl 0 rfl ?_
      refine v_dup cx dX6_type_52 rfl ?_
      refine g_X6_63 cx dX6_type_53 0 rfl rfl ?_
      refine v_iconst (v := 1) cx dX6_type_56 (by decide) ?_
      refine v_iadd cx dX6_type_57 ?_
      refine p_X6_63 (ws' := [(q_t, .inr (6, [.ref q_t_m, .ref q_t_saved, .int t_savedCount, .ref q_t_text, .int (t_textLength + 1), .int 0, .int t_at, .ref q_t_read, .int t_number, .ref q_t_counts, .ref q_t_scores, .ref q_t_isIn, .ref q_t_order, .int t_ranked, .int t_emptySide, .ref q_t_row, .ref q_t_listing, .int t_listingLength, .long t_hash])), (q_t_text, .inl (cy 0, 120, .inl (upd t_text t_textLength.toNatClampNeg x1)))]) cx dX6_type_58 0 rfl rfl rfl (Nat.le_of_ble_eq_true rfl) rfl ?_
      refine v_aload_n cx dX6_type_61 rfl 0 rfl ?_
      refine g_X6_63 cx dX6_type_62 0 rfl rfl ?_
      exact v_ireturn cx rfl dX6_type_65 ⟨_, _, _, _, rfl, rfl, h⟩
    · refine v_iconst (v := 2) cx dX6_type_24 (by decide) ?_
      refine v_goto (tgt := 29) cx dX6_type_25 (by decide) ?_
      refine p_X6_45 (ws' := [(q_t, .inr (6, [.ref q_t_m, .ref q_t_saved, .int t_savedCount, .ref q_t_text, .int t_textLength, .int 2, .int t_at, .ref q_t_read, .int t_number, .ref q_t_counts, .ref q_t_scores, .ref q_t_isIn, .ref q_t_order, .int t_ranked, .int t_emptySide, .ref q_t_row, .ref q_t_listing, .int t_listingLength, .long t_hash])), (q_t_text, .inl (cy 0, 120, .inl t_text))]) cx dX6_type_29 0 rfl rfl rfl (Nat.le_of_ble_eq_true rfl) rfl ?_
      refine v_aload_n cx dX6_type_32 rfl 0 rfl ?_
      refine g_X6_45 cx dX6_type_33 0 rfl rfl ?_
      refine v_if_eq (tgt := 41) (P1 := False) (P2 := True) cx dX6_type_36 (by decide) (by decide) (fun z => z.elim) (fun _ => ?_)
      refine v_iconst (v := 0) cx dX6_type_39 (by decide) ?_
      exact v_ireturn cx rfl dX6_type_40 ⟨_, _, _, _, rfl, rfl, h⟩
  · refine v_iconst (v := 1) cx dX6_type_11 (by decide) ?_
    refine v_goto (tgt := 29) cx dX6_type_12 (by decide) ?_
    refine p_X6_45 (ws' := [(q_t, .inr (6, [.ref q_t_m, .ref q_t_saved, .int t_savedCount, .ref q_t_text, .int t_textLength, .int 1, .int t_at, .ref q_t_read, .int t_number, .ref q_t_counts, .ref q_t_scores, .ref q_t_isIn, .ref q_t_order, .int t_ranked, .int t_emptySide, .ref q_t_row, .ref q_t_listing, .int t_listingLength, .long t_hash])), (q_t_text, .inl (cy 0, 120, .inl t_text))]) cx dX6_type_29 0 rfl rfl rfl (Nat.le_of_ble_eq_true rfl) rfl ?_
    refine v_aload_n cx dX6_type_32 rfl 0 rfl ?_
    refine g_X6_45 cx dX6_type_33 0 rfl rfl ?_
    refine v_if_eq (tgt := 41) (P1 := False) (P2 := True) cx dX6_type_36 (by decide) (by decide) (fun z => z.elim) (fun _ => ?_)
    refine v_iconst (v := 0) cx dX6_type_39 (by decide) ?_
    exact v_ireturn cx rfl dX6_type_40 ⟨_, _, _, _, rfl, rfl, h⟩
abbrev rm_X6_clearText : Room := { frames := 0, cells := 0, slots := 0, locals := 0 }
set_option maxHeartbeats 4000000 in
set_option maxRecDepth 100000 in
theorem c_X6_clearText (l : Launch) (g : gT) (D : va_G) (cy : Nat → ClassId) (q_t q_t_m q_t_saved q_t_text q_t_read q_t_counts q_t_scores q_t_isIn q_t_order q_t_row q_t_listing : Nat) {t_savedCount : Int32} {t_textLength : Int32} {t_code : Int32} {t_at : Int32} {t_number : Int32} {t_ranked : Int32} {t_emptySide : Int32} {t_listingLength : Int32} {t_hash : Int64} {N : Nat} {Q : Int32 → Int32 → Int32 → Prop} (h : p_X6_clearText N t_savedCount t_textLength t_code t_at t_number t_ranked t_emptySide t_listingLength t_hash Q) : UC l yX6_clearText cX6_clearText 2 (some .int) rm_X6_clearText g D cy [.ref q_t] [(q_t, .inr (6, [.ref q_t_m, .ref q_t_saved, .int t_savedCount, .ref q_t_text, .int t_textLength, .int t_code, .int t_at, .ref q_t_read, .int t_number, .ref q_t_counts, .ref q_t_scores, .ref q_t_isIn, .ref q_t_order, .int t_ranked, .int t_emptySide, .ref q_t_row, .ref q_t_listing, .int t_listingLength, .long t_hash]))] (fun v w => ∃ (r : Int32) (t_textLength' : Int32) (t_code' : Int32), v = some (.int r) ∧ w = [(q_t, .inr (6, [.ref q_t_m, .ref q_t_saved, .int t_savedCount, .ref q_t_text, .int t_textLength', .int t_code', .int t_at, .ref q_t_read, .int t_number, .ref q_t_counts, .ref q_t_scores, .ref q_t_isIn, .ref q_t_order, .int t_ranked, .int t_emptySide, .ref q_t_row, .ref q_t_listing, .int t_listingLength, .long t_hash]))] ∧ Q r t_textLength' t_code') := by
  refine UC_of (by decide +kernel) (Nat.le_of_ble_eq_true rfl) [(0, .ref q_t)] rfl (fun p e s m args below meth c A cx => ?_)
  unfold p_X6_clearText at h
  refine v_aload_n cx dX6_clearText_0 rfl 0 rfl ?_
  refine v_iconst (v := 0) cx dX6_clearText_1 (by decide) ?_
  refine p_X6_45 (ws' := [(q_t, .inr (6, [.ref q_t_m, .ref q_t_saved, .int t_savedCount, .ref q_t_text, .int t_textLength, .int 0, .int t_at, .ref q_t_read, .int t_number, .ref q_t_counts, .ref q_t_scores, .ref q_t_isIn, .ref q_t_order, .int t_ranked, .int t_emptySide, .ref q_t_row, .ref q_t_listing, .int t_listingLength, .long t_hash]))]) cx dX6_clearText_2 0 rfl rfl rfl (Nat.le_of_ble_eq_true rfl) rfl ?_
  refine v_aload_n cx dX6_clearText_5 rfl 0 rfl ?_
  refine g_X6_63 cx dX6_clearText_6 0 rfl rfl ?_
  refine v_istore_n (lv' := [(1, .int t_textLength), (0, .ref q_t)]) cx dX6_clearText_9 rfl (by decide) rfl ?_
  refine v_aload_n cx dX6_clearText_10 rfl 1 rfl ?_
  refine v_iconst (v := 0) cx dX6_clearText_11 (by decide) ?_
  refine p_X6_63 (ws' := [(q_t, .inr (6, [.ref q_t_m, .ref q_t_saved, .int t_savedCount, .ref q_t_text, .int 0, .int 0, .int t_at, .ref q_t_read, .int t_number, .ref q_t_counts, .ref q_t_scores, .ref q_t_isIn, .ref q_t_order, .int t_ranked, .int t_emptySide, .ref q_t_row, .ref q_t_listing, .int t_listingLength, .long t_hash]))]) cx dX6_clearText_12 0 rfl rfl rfl (Nat.le_of_ble_eq_true rfl) rfl ?_
  refine v_iload_n cx dX6_clearText_15 rfl 0 rfl ?_
  exact v_ireturn cx rfl dX6_clearText_16 ⟨_, _, _, rfl, rfl, h⟩
abbrev rm_X6_here : Room := { frames := 0, cells := 0, slots := 0, locals := 0 }
set_option maxHeartbeats 4000000 in
set_option maxRecDepth 100000 in
theorem c_X6_here (l : Launch) (g : gT) (D : va_G) (cy : Nat → ClassId) (q_t q_t_m q_t_saved q_t_text q_t_read q_t_counts q_t_scores q_t_isIn q_t_order q_t_row q_t_listing : Nat) {t_savedCount : Int32} {t_textLength : Int32} {t_code : Int32} {t_at : Int32} {t_number : Int32} {t_ranked : Int32} {t_emptySide : Int32} {t_listingLength : Int32} {t_hash : Int64} {t_text : Nat → Int32} {N : Nat} {Q : Int32 → Prop} (h : p_X6_here N t_savedCount t_textLength t_code t_at t_number t_ranked t_emptySide t_listingLength t_hash t_text Q) : UC l yX6_here cX6_here 1 (some .int) rm_X6_here g D cy [.ref q_t] [(q_t, .inr (6, [.ref q_t_m, .ref q_t_saved, .int t_savedCount, .ref q_t_text, .int t_textLength, .int t_code, .int t_at, .ref q_t_read, .int t_number, .ref q_t_counts, .ref q_t_scores, .ref q_t_isIn, .ref q_t_order, .int t_ranked, .int t_emptySide, .ref q_t_row, .ref q_t_listing, .int t_listingLength, .long t_hash])), (q_t_text, .inl (cy 0, 120, .inl t_text))] (fun v w => w = [(q_t, .inr (6, [.ref q_t_m, .ref q_t_saved, .int t_savedCount, .ref q_t_text, .int t_textLength, .int t_code, .int t_at, .ref q_t_read, .int t_number, .ref q_t_counts, .ref q_t_scores, .ref q_t_isIn, .ref q_t_order, .int t_ranked, .int t_emptySide, .ref q_t_row, .ref q_t_listing, .int t_listingLength, .long t_hash])), (q_t_text, .inl (cy 0, 120, .inl t_text))] ∧ ∃ r : Int32, v = some (.int r) ∧ Q r) := by
  refine UC_of (by decide +kernel) (Nat.le_of_ble_eq_true rfl) [(0, .ref q_t)] rfl (fun p e s m args below meth c A cx => ?_)
  unfold p_X6_here at h
  refine v_aload_n cx dX6_here_0 rfl 0 rfl ?_
  refine g_X6_66 cx dX6_here_1 0 rfl rfl ?_
  refine v_aload_n cx dX6_here_4 rfl 0 rfl ?_
  refine g_X6_63 cx dX6_here_5 0 rfl rfl ?_
  refine v_icmp_ge (tgt := 23) cx dX6_here_8 (by decide) h (fun h => ?_) (fun h => ?_)
  · refine v_iconst (v := (-1)) cx dX6_here_23 (by decide) ?_
    exact v_ireturn cx rfl dX6_here_24 ⟨rfl, _, rfl, h⟩
  · refine v_aload_n cx dX6_here_11 rfl 0 rfl ?_
    refine g_X6_16 cx dX6_here_12 0 rfl rfl ?_
    refine v_aload_n cx dX6_here_15 rfl 0 rfl ?_
    refine g_X6_66 cx dX6_here_16 0 rfl rfl ?_
    refine v_iald cx dX6_here_19 1 rfl h (fun h => ?_)
    refine v_goto (tgt := 24) cx dX6_here_20 (by decide) ?_
    exact v_ireturn cx rfl dX6_here_24 ⟨rfl, _, rfl, h⟩
abbrev rm_X6_isEnd : Room := { frames := 0, cells := 0, slots := 0, locals := 0 }
set_option maxHeartbeats 4000000 in
set_option maxRecDepth 100000 in
theorem c_X6_isEnd (l : Launch) (g : gT) (D : va_G) (cy : Nat → ClassId) (q_t q_t_m q_t_saved q_t_text q_t_read q_t_counts q_t_scores q_t_isIn q_t_order q_t_row q_t_listing : Nat) {t_savedCount : Int32} {t_textLength : Int32} {t_code : Int32} {t_at : Int32} {t_number : Int32} {t_ranked : Int32} {t_emptySide : Int32} {t_listingLength : Int32} {t_hash : Int64} {N : Nat} {Q : Int32 → Prop} (h : p_X6_isEnd N t_savedCount t_textLength t_code t_at t_number t_ranked t_emptySide t_listingLength t_hash Q) : UC l yX6_isEnd cX6_isEnd 1 (some .boolean) rm_X6_isEnd g D cy [.ref q_t] [(q_t, .inr (6, [.ref q_t_m, .ref q_t_saved, .int t_savedCount, .ref q_t_text, .int t_textLength, .int t_code, .int t_at, .ref q_t_read, .int t_number, .ref q_t_counts, .ref q_t_scores, .ref q_t_isIn, .ref q_t_order, .int t_ranked, .int t_emptySide, .ref q_t_row, .ref q_t_listing, .int t_listingLength, .long t_hash]))] (fun v w => w = [(q_t, .inr (6, [.ref q_t_m, .ref q_t_saved, .int t_savedCount, .ref q_t_text, .int t_textLength, .int t_code, .int t_at, .ref q_t_read, .int t_number, .ref q_t_counts, .ref q_t_scores, .ref q_t_isIn, .ref q_t_order, .int t_ranked, .int t_emptySide, .ref q_t_row, .ref q_t_listing, .int t_listingLength, .long t_hash]))] ∧ ∃ r : Int32, v = some (.int r) ∧ Q r) := by
  refine UC_of (by decide +kernel) (Nat.le_of_ble_eq_true rfl) [(0, .ref q_t)] rfl (fun p e s m args below meth c A cx => ?_)
  unfold p_X6_isEnd at h
  refine v_aload_n cx dX6_isEnd_0 rfl 0 rfl ?_
  refine g_X6_66 cx dX6_isEnd_1 0 rfl rfl ?_
  refine v_aload_n cx dX6_isEnd_4 rfl 0 rfl ?_
  refine g_X6_63 cx dX6_isEnd_5 0 rfl rfl ?_
  refine v_icmp_ne (tgt := 15) cx dX6_isEnd_8 (by decide) h (fun h => ?_) (fun h => ?_)
  · refine v_iconst (v := 0) cx dX6_isEnd_15 (by decide) ?_
    exact v_ireturn cx rfl dX6_isEnd_16 ⟨rfl, _, rfl, h⟩
  · refine v_iconst (v := 1) cx dX6_isEnd_11 (by decide) ?_
    refine v_goto (tgt := 16) cx dX6_isEnd_12 (by decide) ?_
    exact v_ireturn cx rfl dX6_isEnd_16 ⟨rfl, _, rfl, h⟩
abbrev rm_X6_skips : Room := { frames := 1, cells := 0, slots := 0, locals := 20 }
set_option maxHeartbeats 4000000 in
set_option maxRecDepth 100000 in
theorem w_X6_skips_5 {p : Program} {l : Launch} {e : Env} {s : State} {m : MethodId} {args : Array Value} {below : List Frame} {meth : Method} {c : Code} {Q9 : State → Prop} {mn : String} {Ts : List Cond} {D : va_G} {cy : Nat → ClassId} {g : gT} {A : Nat → Prop} (cx : vC p s m args meth c cX6_skips 2 (some .boolean) RX6 mn Ts D cy g A) (q_t q_t_m q_t_saved q_t_text q_t_read q_t_counts q_t_scores q_t_isIn q_t_order q_t_row q_t_listing : Nat) {x1 : Int32} {t_savedCount : Int32} {t_textLength : Int32} {t_code : Int32} {t_number : Int32} {t_ranked : Int32} {t_emptySide : Int32} {t_listingLength : Int32} {t_hash : Int64} {t_text : Nat → Int32} {N : Nat} {K27 : Int32 → Prop} (hK27 : ∀ (t_at : Int32), K27 t_at → vV p l e rm_X6_skips s m args below meth c Q9 2 D A 0 0 [(q_t, .inr (6, [.ref q_t_m, .ref q_t_saved, .int t_savedCount, .ref q_t_text, .int t_textLength, .int t_code, .int t_at, .ref q_t_read, .int t_number, .ref q_t_counts, .ref q_t_scores, .ref q_t_isIn, .ref q_t_order, .int t_ranked, .int t_emptySide, .ref q_t_row, .ref q_t_listing, .int t_listingLength, .long t_hash])), (q_t_text, .inl (cy 0, 120, .inl t_text))] 27 [(0, .ref q_t), (1, .int x1)] []) : ∀ (n : Nat) (t_at : Int32), p_X6_skips_5 N x1 t_savedCount t_textLength t_code t_number t_ranked t_emptySide t_listingLength t_hash t_text K27 n t_at → vV p l e rm_X6_skips s m args below meth c Q9 2 D A 0 0 [(q_t, .inr (6, [.ref q_t_m, .ref q_t_saved, .int t_savedCount, .ref q_t_text, .int t_textLength, .int t_code, .int t_at, .ref q_t_read, .int t_number, .ref q_t_counts, .ref q_t_scores, .ref q_t_isIn, .ref q_t_order, .int t_ranked, .int t_emptySide, .ref q_t_row, .ref q_t_listing, .int t_listingLength, .long t_hash])), (q_t_text, .inl (cy 0, 120, .inl t_text))] 5 [(0, .ref q_t), (1, .int x1)] [] := by
  intro n
  induction n with
  | zero => intro t_at h; exact False.elim h
  | succ n ih =>
    intro t_at h
    unfold p_X6_skips_5 at h
    refine v_aload_n cx dX6_skips_5 rfl 0 rfl ?_
    refine v_callVpi (As := []) cx (c_X6_here l g D cy q_t q_t_m q_t_saved q_t_text q_t_read q_t_counts q_t_scores q_t_isIn q_t_order q_t_row q_t_listing h) k_X6_69 (by decide) ⟨rfl, rfl⟩ (by decide) rfl rfl (Nat.le_of_ble_eq_true rfl) dX6_skips_6 [0, 1] [] (by decide) (vj_all 2 rfl (by decide +kernel)) rfl rfl rfl (q0 := 0) rfl rfl (fun r_1 h => ?_)
    refine v_bipush (v := 32) cx dX6_skips_9 (by decide) ?_
    refine v_icmp_ne (tgt := 27) cx dX6_skips_11 (by decide) h (fun h => ?_) (fun h => ?_)
    · refine v_lv (lv' := [(0, .ref q_t), (1, .int x1)]) [0, 1] rfl ?_
      exact hK27 _ h
    · refine v_aload_n cx dX6_skips_14 rfl 0 rfl ?_
      refine v_dup cx dX6_skips_15 rfl ?_
      refine g_X6_66 cx dX6_skips_16 0 rfl rfl ?_
      refine v_iconst (v := 1) cx dX6_skips_19 (by decide) ?_
      refine v_iadd cx dX6_skips_20 ?_
      refine p_X6_66 (ws' := [(q_t, .inr (6, [.ref q_t_m, .ref q_t_saved, .int t_savedCount, .ref q_t_text, .int t_textLength, .int t_code, .int (t_at + 1), .ref q_t_read, .int t_number, .ref q_t_counts, .ref q_t_scores, .ref q_t_isIn, .ref q_t_order, .int t_ranked, .int t_emptySide, .ref q_t_row, .ref q_t_listing, .int t_listingLength, .long t_hash])), (q_t_text, .inl (cy 0, 120, .inl t_text))]) cx dX6_skips_21 0 rfl rfl rfl (Nat.le_of_ble_eq_true rfl) rfl ?_
      refine v_goto (tgt := 5) cx dX6_skips_24 (by decide) ?_
      refine v_lv (lv' := [(0, .ref q_t), (1, .int x1)]) [0, 1] rfl ?_
      exact ih _ h
set_option maxHeartbeats 4000000 in
set_option maxRecDepth 100000 in
theorem c_X6_skips (l : Launch) (g : gT) (D : va_G) (cy : Nat → ClassId) (q_t q_t_m q_t_saved q_t_text q_t_read q_t_counts q_t_scores q_t_isIn q_t_order q_t_row q_t_listing : Nat) {t_savedCount : Int32} {t_textLength : Int32} {t_code : Int32} {t_at : Int32} {t_number : Int32} {t_ranked : Int32} {t_emptySide : Int32} {t_listingLength : Int32} {t_hash : Int64} {t_text : Nat → Int32} {N : Nat} {Q : Int32 → Int32 → Prop} (h : p_X6_skips N t_savedCount t_textLength t_code t_at t_number t_ranked t_emptySide t_listingLength t_hash t_text Q) : UC l yX6_skips cX6_skips 2 (some .boolean) rm_X6_skips g D cy [.ref q_t] [(q_t, .inr (6, [.ref q_t_m, .ref q_t_saved, .int t_savedCount, .ref q_t_text, .int t_textLength, .int t_code, .int t_at, .ref q_t_read, .int t_number, .ref q_t_counts, .ref q_t_scores, .ref q_t_isIn, .ref q_t_order, .int t_ranked, .int t_emptySide, .ref q_t_row, .ref q_t_listing, .int t_listingLength, .long t_hash])), (q_t_text, .inl (cy 0, 120, .inl t_text))] (fun v w => ∃ (r : Int32) (t_at' : Int32), v = some (.int r) ∧ w = [(q_t, .inr (6, [.ref q_t_m, .ref q_t_saved, .int t_savedCount, .ref q_t_text, .int t_textLength, .int t_code, .int t_at', .ref q_t_read, .int t_number, .ref q_t_counts, .ref q_t_scores, .ref q_t_isIn, .ref q_t_order, .int t_ranked, .int t_emptySide, .ref q_t_row, .ref q_t_listing, .int t_listingLength, .long t_hash])), (q_t_text, .inl (cy 0, 120, .inl t_text))] ∧ Q r t_at') := by
  refine UC_of (by decide +kernel) (Nat.le_of_ble_eq_true rfl) [(0, .ref q_t)] rfl (fun p e s m args below meth c A cx => ?_)
  unfold p_X6_skips at h
  refine v_aload_n cx dX6_skips_0 rfl 0 rfl ?_
  refine g_X6_66 cx dX6_skips_1 0 rfl rfl ?_
  refine v_istore_n (lv' := [(1, .int t_at), (0, .ref q_t)]) cx dX6_skips_4 rfl (by decide) rfl ?_
  refine v_lv (lv' := [(0, .ref q_t), (1, .int t_at)]) [1, 0] rfl ?_
  refine w_X6_skips_5 cx q_t q_t_m q_t_saved q_t_text q_t_read q_t_counts q_t_scores q_t_isIn q_t_order q_t_row q_t_listing ?_ N _ h
  · intro t_at_2 h
    refine v_aload_n cx dX6_skips_27 rfl 0 rfl ?_
    refine g_X6_66 cx dX6_skips_28 0 rfl rfl ?_
    refine v_iload_n cx dX6_skips_31 rfl 1 rfl ?_
    refine v_icmp_le (tgt := 39) cx dX6_skips_32 (by decide) h (fun h => ?_) (fun h => ?_)
    · refine v_iconst (v := 0) cx dX6_skips_39 (by decide) ?_
      exact v_ireturn cx rfl dX6_skips_40 ⟨_, _, rfl, rfl, h⟩
    · refine v_iconst (v := 1) cx dX6_skips_35 (by decide) ?_
      refine v_goto (tgt := 40) cx dX6_skips_36 (by decide) ?_
      exact v_ireturn cx rfl dX6_skips_40 ⟨_, _, rfl, rfl, h⟩
abbrev rm_X6_takes : Room := { frames := 1, cells := 0, slots := 0, locals := 20 }
set_option maxHeartbeats 4000000 in
set_option maxRecDepth 100000 in
theorem c_X6_takes (l : Launch) (g : gT) (D : va_G) (cy : Nat → ClassId) (q_t q_t_m q_t_saved q_t_text q_t_read q_t_counts q_t_scores q_t_isIn q_t_order q_t_row q_t_listing : Nat) {t_savedCount : Int32} {t_textLength : Int32} {t_code : Int32} {t_at : Int32} {t_number : Int32} {t_ranked : Int32} {t_emptySide : Int32} {t_listingLength : Int32} {t_hash : Int64} {t_text : Nat → Int32} {x1 : Int32} {N : Nat} {Q : Int32 → Int32 → Prop} (h : p_X6_takes N t_savedCount t_textLength t_code t_at t_number t_ranked t_emptySide t_listingLength t_hash t_text x1 Q) : UC l yX6_takes cX6_takes 3 (some .boolean) rm_X6_takes g D cy [.ref q_t, .int x1] [(q_t, .inr (6, [.ref q_t_m, .ref q_t_saved, .int t_savedCount, .ref q_t_text, .int t_textLength, .int t_code, .int t_at, .ref q_t_read, .int t_number, .ref q_t_counts, .ref q_t_scores, .ref q_t_isIn, .ref q_t_order, .int t_ranked, .int t_emptySide, .ref q_t_row, .ref q_t_listing, .int t_listingLength, .long t_hash])), (q_t_text, .inl (cy 0, 120, .inl t_text))] (fun v w => ∃ (r : Int32) (t_at' : Int32), v = some (.int r) ∧ w = [(q_t, .inr (6, [.ref q_t_m, .ref q_t_saved, .int t_savedCount, .ref q_t_text, .int t_textLength, .int t_code, .int t_at', .ref q_t_read, .int t_number, .ref q_t_counts, .ref q_t_scores, .ref q_t_isIn, .ref q_t_order, .int t_ranked, .int t_emptySide, .ref q_t_row, .ref q_t_listing, .int t_listingLength, .long t_hash])), (q_t_text, .inl (cy 0, 120, .inl t_text))] ∧ Q r t_at') := by
  refine UC_of (by decide +kernel) (Nat.le_of_ble_eq_true rfl) [(0, .ref q_t), (1, .int x1)] rfl (fun p e s m args below meth c A cx => ?_)
  unfold p_X6_takes at h
  refine v_aload_n cx dX6_takes_0 rfl 0 rfl ?_
  refine v_callVpi (As := []) cx (c_X6_here l g D cy q_t q_t_m q_t_saved q_t_text q_t_read q_t_counts q_t_scores q_t_isIn q_t_order q_t_row q_t_listing h) k_X6_69 (by decide) ⟨rfl, rfl⟩ (by decide) rfl rfl (Nat.le_of_ble_eq_true rfl) dX6_takes_1 [0, 1] [] (by decide) (vj_all 2 rfl (by decide +kernel)) rfl rfl rfl (q0 := 0) rfl rfl (fun r_1 h => ?_)
  refine v_iload_n cx dX6_takes_4 rfl 1 rfl ?_
  refine v_icmp_ne (tgt := 12) cx dX6_takes_5 (by decide) h (fun h => ?_) (fun h => ?_)
  · refine v_iconst (v := 0) cx dX6_takes_12 (by decide) ?_
    refine v_istore_n (lv' := [(2, .int 0), (0, .ref q_t), (1, .int x1)]) cx dX6_takes_13 rfl (by decide) rfl ?_
    refine v_aload_n cx dX6_takes_14 rfl 1 rfl ?_
    refine v_dup cx dX6_takes_15 rfl ?_
    refine g_X6_66 cx dX6_takes_16 0 rfl rfl ?_
    refine v_iload_n cx dX6_takes_19 rfl 0 rfl ?_
    refine v_if_eq (tgt := 27) (P1 := True) (P2 := False) cx dX6_takes_20 (by decide) (by decide) (fun _ => ?_) (fun z => z.elim)
    refine v_iconst (v := 0) cx dX6_takes_27 (by decide) ?_
    refine v_iadd cx dX6_takes_28 ?_
    refine p_X6_66 (ws' := [(q_t, .inr (6, [.ref q_t_m, .ref q_t_saved, .int t_savedCount, .ref q_t_text, .int t_textLength, .int t_code, .int (t_at + 0), .ref q_t_read, .int t_number, .ref q_t_counts, .ref q_t_scores, .ref q_t_isIn, .ref q_t_order, .int t_ranked, .int t_emptySide, .ref q_t_row, .ref q_t_listing, .int t_listingLength, .long t_hash])), (q_t_text, .inl (cy 0, 120, .inl t_text))]) cx dX6_takes_29 0 rfl rfl rfl (Nat.le_of_ble_eq_true rfl) rfl ?_
    refine v_iload_n cx dX6_takes_32 rfl 0 rfl ?_
    exact v_ireturn cx rfl dX6_takes_33 ⟨_, _, rfl, rfl, h⟩
  · refine v_iconst (v := 1) cx dX6_takes_8 (by decide) ?_
    refine v_goto (tgt := 13) cx dX6_takes_9 (by decide) ?_
    refine v_istore_n (lv' := [(2, .int 1), (0, .ref q_t), (1, .int x1)]) cx dX6_takes_13 rfl (by decide) rfl ?_
    refine v_aload_n cx dX6_takes_14 rfl 1 rfl ?_
    refine v_dup cx dX6_takes_15 rfl ?_
    refine g_X6_66 cx dX6_takes_16 0 rfl rfl ?_
    refine v_iload_n cx dX6_takes_19 rfl 0 rfl ?_
    refine v_if_eq (tgt := 27) (P1 := False) (P2 := True) cx dX6_takes_20 (by decide) (by decide) (fun z => z.elim) (fun _ => ?_)
    refine v_iconst (v := 1) cx dX6_takes_23 (by decide) ?_
    refine v_goto (tgt := 28) cx dX6_takes_24 (by decide) ?_
    refine v_iadd cx dX6_takes_28 ?_
    refine p_X6_66 (ws' := [(q_t, .inr (6, [.ref q_t_m, .ref q_t_saved, .int t_savedCount, .ref q_t_text, .int t_textLength, .int t_code, .int (t_at + 1), .ref q_t_read, .int t_number, .ref q_t_counts, .ref q_t_scores, .ref q_t_isIn, .ref q_t_order, .int t_ranked, .int t_emptySide, .ref q_t_row, .ref q_t_listing, .int t_listingLength, .long t_hash])), (q_t_text, .inl (cy 0, 120, .inl t_text))]) cx dX6_takes_29 0 rfl rfl rfl (Nat.le_of_ble_eq_true rfl) rfl ?_
    refine v_iload_n cx dX6_takes_32 rfl 0 rfl ?_
    exact v_ireturn cx rfl dX6_takes_33 ⟨_, _, rfl, rfl, h⟩
abbrev rm_X6_readName : Room := { frames := 1, cells := 0, slots := 0, locals := 22 }
set_option maxHeartbeats 4000000 in
set_option maxRecDepth 100000 in
theorem w_X6_readName_7 {p : Program} {l : Launch} {e : Env} {s : State} {m : MethodId} {args : Array Value} {below : List Frame} {meth : Method} {c : Code} {Q9 : State → Prop} {mn : String} {Ts : List Cond} {D : va_G} {cy : Nat → ClassId} {g : gT} {A : Nat → Prop} (cx : vC p s m args meth c cX6_readName 4 (some .boolean) RX6 mn Ts D cy g A) (q_t q_t_m q_t_saved q_t_text q_t_read q_t_counts q_t_scores q_t_isIn q_t_order q_t_row q_t_listing : Nat) {x1 : Int32} {x2 : Int32} {t_savedCount : Int32} {t_textLength : Int32} {t_code : Int32} {t_number : Int32} {t_ranked : Int32} {t_emptySide : Int32} {t_listingLength : Int32} {t_hash : Int64} {t_text : Nat → Int32} {t_read : Nat → Int32} {N : Nat} {K63 : Int32 → Int32 → Prop} (hK63 : ∀ (x3 : Int32) (t_at : Int32), K63 x3 t_at → vV p l e rm_X6_readName s m args below meth c Q9 4 D A 0 0 [(q_t, .inr (6, [.ref q_t_m, .ref q_t_saved, .int t_savedCount, .ref q_t_text, .int t_textLength, .int t_code, .int t_at, .ref q_t_read, .int t_number, .ref q_t_counts, .ref q_t_scores, .ref q_t_isIn, .ref q_t_order, .int t_ranked, .int t_emptySide, .ref q_t_row, .ref q_t_listing, .int t_listingLength, .long t_hash])), (q_t_text, .inl (cy 0, 120, .inl t_text)), (q_t_read, .inl (cy 0, 40, .inl t_read))] 63 [(0, .ref q_t), (1, .int x1), (2, .int x2), (3, .int x3)] []) : ∀ (n : Nat) (x3 : Int32) (t_at : Int32), p_X6_readName_7 N x1 x2 t_savedCount t_textLength t_code t_number t_ranked t_emptySide t_listingLength t_hash t_text t_read K63 n x3 t_at → vV p l e rm_X6_readName s m args below meth c Q9 4 D A 0 0 [(q_t, .inr (6, [.ref q_t_m, .ref q_t_saved, .int t_savedCount, .ref q_t_text, .int t_textLength, .int t_code, .int t_at, .ref q_t_read, .int t_number, .ref q_t_counts, .ref q_t_scores, .ref q_t_isIn, .ref q_t_order, .int t_ranked, .int t_emptySide, .ref q_t_row, .ref q_t_listing, .int t_listingLength, .long t_hash])), (q_t_text, .inl (cy 0, 120, .inl t_text)), (q_t_read, .inl (cy 0, 40, .inl t_read))] 7 [(0, .ref q_t), (1, .int x1), (2, .int x2), (3, .int x3)] [] := by
  intro n
  induction n with
  | zero => intro x3 t_at h; exact False.elim h
  | succ n ih =>
    intro x3 t_at h
    unfold p_X6_readName_7 at h
    refine v_aload_n cx dX6_readName_7 rfl 0 rfl ?_
    refine g_X6_66 cx dX6_readName_8 0 rfl rfl ?_
    refine v_iload_n cx dX6_readName_11 rfl 2 rfl ?_
    refine v_iconst (v := 4) cx dX6_readName_12 (by decide) ?_
    refine v_iadd cx dX6_readName_13 ?_
    refine v_icmp_ge (tgt := 63) cx dX6_readName_14 (by decide) h (fun h => ?_) (fun h => ?_)
    · refine v_lv (lv' := [(0, .ref q_t), (1, .int x1), (2, .int x2), (3, .int x3)]) [0, 1, 2, 3] rfl ?_
      exact hK63 _ _ h
    · refine v_aload_n cx dX6_readName_17 rfl 0 rfl ?_
      refine v_callVpi (As := []) cx (c_X6_here l g D cy q_t q_t_m q_t_saved q_t_text q_t_read q_t_counts q_t_scores q_t_isIn q_t_order q_t_row q_t_listing h) k_X6_69 (by decide) ⟨rfl, rfl⟩ (by decide) rfl rfl (Nat.le_of_ble_eq_true rfl) dX6_readName_18 [0, 1] [2] (by decide) (vj_all 3 rfl (by decide +kernel)) rfl rfl rfl (q0 := 0) rfl rfl (fun r_1 h => ?_)
      refine v_bipush (v := 97) cx dX6_readName_21 (by decide) ?_
      refine v_bipush (v := 122) cx dX6_readName_23 (by decide) ?_
      refine v_callSpi (As := [.int r_1, .int 97, .int 122]) cx (c_X6_in l g D cy  h) k_X6_51 (by decide) ⟨rfl, rfl⟩ (by decide) rfl rfl (Nat.le_of_ble_eq_true rfl) dX6_readName_25 [] [0, 1, 2] (by decide) (vj_all 3 rfl (by decide +kernel)) rfl rfl rfl (fun r_2 h => ?_)
      refine v_if_eq (tgt := 63) cx dX6_readName_28 (by decide) h (fun h => ?_) (fun h => ?_)
      · refine v_lv (lv' := [(0, .ref q_t), (1, .int x1), (2, .int x2), (3, .int x3)]) [0, 1, 2, 3] rfl ?_
        exact hK63 _ _ h
      · refine v_iload_n cx dX6_readName_31 rfl 3 rfl ?_
        refine v_aload_n cx dX6_readName_32 rfl 0 rfl ?_
        refine v_callVpi (As := []) cx (c_X6_here l g D cy q_t q_t_m q_t_saved q_t_text q_t_read q_t_counts q_t_scores q_t_isIn q_t_order q_t_row q_t_listing h) k_X6_69 (by decide) ⟨rfl, rfl⟩ (by decide) rfl rfl (Nat.le_of_ble_eq_true rfl) dX6_readName_33 [0, 1] [2] (by decide) (vj_all 3 rfl (by decide +kernel)) rfl rfl rfl (q0 := 0) rfl rfl (fun r_3 h => ?_)
        refine v_bipush (v := 8) cx dX6_readName_36 (by decide) ?_
        refine v_iconst (v := 3) cx dX6_readName_38 (by decide) ?_
        refine v_aload_n cx dX6_readName_39 rfl 0 rfl ?_
        refine g_X6_66 cx dX6_readName_40 0 rfl rfl ?_
        refine v_isub cx dX6_readName_43 ?_
        refine v_iload_n cx dX6_readName_44 rfl 2 rfl ?_
        refine v_iadd cx dX6_readName_45 ?_
        refine v_imul cx dX6_readName_46 ?_
        refine v_ishl cx dX6_readName_47 ?_
        refine v_ior cx dX6_readName_48 ?_
        refine v_istore_n (lv' := [(3, .int (x3 ||| (r_3 <<< ((8 * ((3 - t_at) + x2)) &&& 31)))), (0, .ref q_t), (1, .int x1), (2, .int x2)]) cx dX6_readName_49 rfl (by decide) rfl ?_
        refine v_aload_n cx dX6_readName_50 rfl 1 rfl ?_
        refine v_dup cx dX6_readName_51 rfl ?_
        refine g_X6_66 cx dX6_readName_52 0 rfl rfl ?_
        refine v_iconst (v := 1) cx dX6_readName_55 (by decide) ?_
        refine v_iadd cx dX6_readName_56 ?_
        refine p_X6_66 (ws' := [(q_t, .inr (6, [.ref q_t_m, .ref q_t_saved, .int t_savedCount, .ref q_t_text, .int t_textLength, .int t_code, .int (t_at + 1), .ref q_t_read, .int t_number, .ref q_t_counts, .ref q_t_scores, .ref q_t_isIn, .ref q_t_order, .int t_ranked, .int t_emptySide, .ref q_t_row, .ref q_t_listing, .int t_listingLength, .long t_hash])), (q_t_text, .inl (cy 0, 120, .inl t_text)), (q_t_read, .inl (cy 0, 40, .inl t_read))]) cx dX6_readName_57 0 rfl rfl rfl (Nat.le_of_ble_eq_true rfl) rfl ?_
        refine v_goto (tgt := 7) cx dX6_readName_60 (by decide) ?_
        refine v_lv (lv' := [(0, .ref q_t), (1, .int x1), (2, .int x2), (3, .int (x3 ||| (r_3 <<< ((8 * ((3 - t_at) + x2)) &&& 31))))]) [1, 2, 3, 0] rfl ?_
        exact ih _ _ h
set_option maxHeartbeats 4000000 in
set_option maxRecDepth 100000 in
theorem c_X6_readName (l : Launch) (g : gT) (D : va_G) (cy : Nat → ClassId) (q_t q_t_m q_t_saved q_t_text q_t_read q_t_counts q_t_scores q_t_isIn q_t_order q_t_row q_t_listing : Nat) {t_savedCount : Int32} {t_textLength : Int32} {t_code : Int32} {t_at : Int32} {t_number : Int32} {t_ranked : Int32} {t_emptySide : Int32} {t_listingLength : Int32} {t_hash : Int64} {t_text : Nat → Int32} {t_read : Nat → Int32} {x1 : Int32} {N : Nat} {Q : Int32 → Int32 → (Nat → Int32) → Prop} (h : p_X6_readName N t_savedCount t_textLength t_code t_at t_number t_ranked t_emptySide t_listingLength t_hash t_text t_read x1 Q) : UC l yX6_readName cX6_readName 4 (some .boolean) rm_X6_readName g D cy [.ref q_t, .int x1] [(q_t, .inr (6, [.ref q_t_m, .ref q_t_saved, .int t_savedCount, .ref q_t_text, .int t_textLength, .int t_code, .int t_at, .ref q_t_read, .int t_number, .ref q_t_counts, .ref q_t_scores, .ref q_t_isIn, .ref q_t_order, .int t_ranked, .int t_emptySide, .ref q_t_row, .ref q_t_listing, .int t_listingLength, .long t_hash])), (q_t_text, .inl (cy 0, 120, .inl t_text)), (q_t_read, .inl (cy 0, 40, .inl t_read))] (fun v w => ∃ (r : Int32) (t_at' : Int32) (t_read' : Nat → Int32), v = some (.int r) ∧ w = [(q_t, .inr (6, [.ref q_t_m, .ref q_t_saved, .int t_savedCount, .ref q_t_text, .int t_textLength, .int t_code, .int t_at', .ref q_t_read, .int t_number, .ref q_t_counts, .ref q_t_scores, .ref q_t_isIn, .ref q_t_order, .int t_ranked, .int t_emptySide, .ref q_t_row, .ref q_t_listing, .int t_listingLength, .long t_hash])), (q_t_text, .inl (cy 0, 120, .inl t_text)), (q_t_read, .inl (cy 0, 40, .inl t_read'))] ∧ Q r t_at' t_read') := by
  refine UC_of (by decide +kernel) (Nat.le_of_ble_eq_true rfl) [(0, .ref q_t), (1, .int x1)] rfl (fun p e s m args below meth c A cx => ?_)
  unfold p_X6_readName at h
  refine v_aload_n cx dX6_readName_0 rfl 0 rfl ?_
  refine g_X6_66 cx dX6_readName_1 0 rfl rfl ?_
  refine v_istore_n (lv' := [(2, .int t_at), (0, .ref q_t), (1, .int x1)]) cx dX6_readName_4 rfl (by decide) rfl ?_
  refine v_iconst (v := 0) cx dX6_readName_5 (by decide) ?_
  refine v_istore_n (lv' := [(3, .int 0), (2, .int t_at), (0, .ref q_t), (1, .int x1)]) cx dX6_readName_6 rfl (by decide) rfl ?_
  refine v_lv (lv' := [(0, .ref q_t), (1, .int x1), (2, .int t_at), (3, .int 0)]) [2, 3, 1, 0] rfl ?_
  refine w_X6_readName_7 cx q_t q_t_m q_t_saved q_t_text q_t_read q_t_counts q_t_scores q_t_isIn q_t_order q_t_row q_t_listing ?_ N _ _ h
  · intro x3_4 t_at_5 h
    refine v_aload_n cx dX6_readName_63 rfl 0 rfl ?_
    refine g_X6_19 cx dX6_readName_64 0 rfl rfl ?_
    refine v_iload_n cx dX6_readName_67 rfl 1 rfl ?_
    refine v_iload_n cx dX6_readName_68 rfl 3 rfl ?_
    refine v_iast (ws' := [(q_t, .inr (6, [.ref q_t_m, .ref q_t_saved, .int t_savedCount, .ref q_t_text, .int t_textLength, .int t_code, .int t_at_5, .ref q_t_read, .int t_number, .ref q_t_counts, .ref q_t_scores, .ref q_t_isIn, .ref q_t_order, .int t_ranked, .int t_emptySide, .ref q_t_row, .ref q_t_listing, .int t_listingLength, .long t_hash])), (q_t_text, .inl (cy 0, 120, .inl t_text)), (q_t_read, .inl (cy 0, 40, .inl (upd t_read x1.toNatClampNeg x3_4)))]) cx dX6_readName_69 2 rfl h rfl (fun h => ?_)
    refine v_aload_n cx dX6_readName_70 rfl 0 rfl ?_
    refine g_X6_66 cx dX6_readName_71 0 rfl rfl ?_
    refine v_iload_n cx dX6_readName_74 rfl 2 rfl ?_
    refine v_icmp_le (tgt := 82) cx dX6_readName_75 (by decide) h (fun h => ?_) (fun h => ?_)
    · refine v_iconst (v := 0) cx dX6_readName_82 (by decide) ?_
      exact v_ireturn cx rfl dX6_readName_83 ⟨_, _, _, rfl, rfl, h⟩
    · refine v_iconst (v := 1) cx dX6_readName_78 (by decide) ?_
      refine v_goto (tgt := 83) cx dX6_readName_79 (by decide) ?_
      exact v_ireturn cx rfl dX6_readName_83 ⟨_, _, _, rfl, rfl, h⟩
abbrev rm_X6_readDigits : Room := { frames := 1, cells := 0, slots := 0, locals := 22 }
set_option maxHeartbeats 4000000 in
set_option maxRecDepth 100000 in
theorem w_X6_readDigits_10 {p : Program} {l : Launch} {e : Env} {s : State} {m : MethodId} {args : Array Value} {below : List Frame} {meth : Method} {c : Code} {Q9 : State → Prop} {mn : String} {Ts : List Cond} {D : va_G} {cy : Nat → ClassId} {g : gT} {A : Nat → Prop} (cx : vC p s m args meth c cX6_readDigits 3 (some .boolean) RX6 mn Ts D cy g A) (q_t q_t_m q_t_saved q_t_text q_t_read q_t_counts q_t_scores q_t_isIn q_t_order q_t_row q_t_listing : Nat) {x1 : Int32} {x2 : Int32} {t_savedCount : Int32} {t_textLength : Int32} {t_code : Int32} {t_ranked : Int32} {t_emptySide : Int32} {t_listingLength : Int32} {t_hash : Int64} {t_text : Nat → Int32} {N : Nat} {K66 : Int32 → Int32 → Prop} (hK66 : ∀ (t_at : Int32) (t_number : Int32), K66 t_at t_number → vV p l e rm_X6_readDigits s m args below meth c Q9 3 D A 0 0 [(q_t, .inr (6, [.ref q_t_m, .ref q_t_saved, .int t_savedCount, .ref q_t_text, .int t_textLength, .int t_code, .int t_at, .ref q_t_read, .int t_number, .ref q_t_counts, .ref q_t_scores, .ref q_t_isIn, .ref q_t_order, .int t_ranked, .int t_emptySide, .ref q_t_row, .ref q_t_listing, .int t_listingLength, .long t_hash])), (q_t_text, .inl (cy 0, 120, .inl t_text))] 66 [(0, .ref q_t), (1, .int x1), (2, .int x2)] []) : ∀ (n : Nat) (t_at : Int32) (t_number : Int32), p_X6_readDigits_10 N x1 x2 t_savedCount t_textLength t_code t_ranked t_emptySide t_listingLength t_hash t_text K66 n t_at t_number → vV p l e rm_X6_readDigits s m args below meth c Q9 3 D A 0 0 [(q_t, .inr (6, [.ref q_t_m, .ref q_t_saved, .int t_savedCount, .ref q_t_text, .int t_textLength, .int t_code, .int t_at, .ref q_t_read, .int t_number, .ref q_t_counts, .ref q_t_scores, .ref q_t_isIn, .ref q_t_order, .int t_ranked, .int t_emptySide, .ref q_t_row, .ref q_t_listing, .int t_listingLength, .long t_hash])), (q_t_text, .inl (cy 0, 120, .inl t_text))] 10 [(0, .ref q_t), (1, .int x1), (2, .int x2)] [] := by
  intro n
  induction n with
  | zero => intro t_at t_number h; exact False.elim h
  | succ n ih =>
    intro t_at t_number h
    unfold p_X6_readDigits_10 at h
    refine v_aload_n cx dX6_readDigits_10 rfl 0 rfl ?_
    refine g_X6_66 cx dX6_readDigits_11 0 rfl rfl ?_
    refine v_iload_n cx dX6_readDigits_14 rfl 2 rfl ?_
    refine v_iload_n cx dX6_readDigits_15 rfl 1 rfl ?_
    refine v_iadd cx dX6_readDigits_16 ?_
    refine v_icmp_ge (tgt := 66) cx dX6_readDigits_17 (by decide) h (fun h => ?_) (fun h => ?_)
    · refine v_lv (lv' := [(0, .ref q_t), (1, .int x1), (2, .int x2)]) [0, 1, 2] rfl ?_
      exact hK66 _ _ h
    · refine v_aload_n cx dX6_readDigits_20 rfl 0 rfl ?_
      refine v_callVpi (As := []) cx (c_X6_here l g D cy q_t q_t_m q_t_saved q_t_text q_t_read q_t_counts q_t_scores q_t_isIn q_t_order q_t_row q_t_listing h) k_X6_69 (by decide) ⟨rfl, rfl⟩ (by decide) rfl rfl (Nat.le_of_ble_eq_true rfl) dX6_readDigits_21 [0, 1] [] (by decide) (vj_all 2 rfl (by decide +kernel)) rfl rfl rfl (q0 := 0) rfl rfl (fun r_1 h => ?_)
      refine v_bipush (v := 48) cx dX6_readDigits_24 (by decide) ?_
      refine v_bipush (v := 57) cx dX6_readDigits_26 (by decide) ?_
      refine v_callSpi (As := [.int r_1, .int 48, .int 57]) cx (c_X6_in l g D cy  h) k_X6_51 (by decide) ⟨rfl, rfl⟩ (by decide) rfl rfl (Nat.le_of_ble_eq_true rfl) dX6_readDigits_28 [] [0, 1] (by decide) (vj_all 2 rfl (by decide +kernel)) rfl rfl rfl (fun r_2 h => ?_)
      refine v_if_eq (tgt := 66) cx dX6_readDigits_31 (by decide) h (fun h => ?_) (fun h => ?_)
      · refine v_lv (lv' := [(0, .ref q_t), (1, .int x1), (2, .int x2)]) [0, 1, 2] rfl ?_
        exact hK66 _ _ h
      · refine v_aload_n cx dX6_readDigits_34 rfl 0 rfl ?_
        refine v_bipush (v := 10) cx dX6_readDigits_35 (by decide) ?_
        refine v_aload_n cx dX6_readDigits_37 rfl 0 rfl ?_
        refine g_X6_73 cx dX6_readDigits_38 0 rfl rfl ?_
        refine v_imul cx dX6_readDigits_41 ?_
        refine v_aload_n cx dX6_readDigits_42 rfl 0 rfl ?_
        refine v_callVpi (As := []) cx (c_X6_here l g D cy q_t q_t_m q_t_saved q_t_text q_t_read q_t_counts q_t_scores q_t_isIn q_t_order q_t_row q_t_listing h) k_X6_69 (by decide) ⟨rfl, rfl⟩ (by decide) rfl rfl (Nat.le_of_ble_eq_true rfl) dX6_readDigits_43 [0, 1] [] (by decide) (vj_all 2 rfl (by decide +kernel)) rfl rfl rfl (q0 := 0) rfl rfl (fun r_3 h => ?_)
        refine v_iadd cx dX6_readDigits_46 ?_
        refine v_bipush (v := 48) cx dX6_readDigits_47 (by decide) ?_
        refine v_isub cx dX6_readDigits_49 ?_
        refine p_X6_73 (ws' := [(q_t, .inr (6, [.ref q_t_m, .ref q_t_saved, .int t_savedCount, .ref q_t_text, .int t_textLength, .int t_code, .int t_at, .ref q_t_read, .int (((10 * t_number) + r_3) - 48), .ref q_t_counts, .ref q_t_scores, .ref q_t_isIn, .ref q_t_order, .int t_ranked, .int t_emptySide, .ref q_t_row, .ref q_t_listing, .int t_listingLength, .long t_hash])), (q_t_text, .inl (cy 0, 120, .inl t_text))]) cx dX6_readDigits_50 0 rfl rfl rfl (Nat.le_of_ble_eq_true rfl) rfl ?_
        refine v_aload_n cx dX6_readDigits_53 rfl 0 rfl ?_
        refine v_dup cx dX6_readDigits_54 rfl ?_
        refine g_X6_66 cx dX6_readDigits_55 0 rfl rfl ?_
        refine v_iconst (v := 1) cx dX6_readDigits_58 (by decide) ?_
        refine v_iadd cx dX6_readDigits_59 ?_
        refine p_X6_66 (ws' := [(q_t, .inr (6, [.ref q_t_m, .ref q_t_saved, .int t_savedCount, .ref q_t_text, .int t_textLength, .int t_code, .int (t_at + 1), .ref q_t_read, .int (((10 * t_number) + r_3) - 48), .ref q_t_counts, .ref q_t_scores, .ref q_t_isIn, .ref q_t_order, .int t_ranked, .int t_emptySide, .ref q_t_row, .ref q_t_listing, .int t_listingLength, .long t_hash])), (q_t_text, .inl (cy 0, 120, .inl t_text))]) cx dX6_readDigits_60 0 rfl rfl rfl (Nat.le_of_ble_eq_true rfl) rfl ?_
        refine v_goto (tgt := 10) cx dX6_readDigits_63 (by decide) ?_
        refine v_lv (lv' := [(0, .ref q_t), (1, .int x1), (2, .int x2)]) [0, 1, 2] rfl ?_
        exact ih _ _ h
set_option maxHeartbeats 4000000 in
set_option maxRecDepth 100000 in
theorem c_X6_readDigits (l : Launch) (g : gT) (D : va_G) (cy : Nat → ClassId) (q_t q_t_m q_t_saved q_t_text q_t_read q_t_counts q_t_scores q_t_isIn q_t_order q_t_row q_t_listing : Nat) {t_savedCount : Int32} {t_textLength : Int32} {t_code : Int32} {t_at : Int32} {t_number : Int32} {t_ranked : Int32} {t_emptySide : Int32} {t_listingLength : Int32} {t_hash : Int64} {t_text : Nat → Int32} {x1 : Int32} {N : Nat} {Q : Int32 → Int32 → Int32 → Prop} (h : p_X6_readDigits N t_savedCount t_textLength t_code t_at t_number t_ranked t_emptySide t_listingLength t_hash t_text x1 Q) : UC l yX6_readDigits cX6_readDigits 3 (some .boolean) rm_X6_readDigits g D cy [.ref q_t, .int x1] [(q_t, .inr (6, [.ref q_t_m, .ref q_t_saved, .int t_savedCount, .ref q_t_text, .int t_textLength, .int t_code, .int t_at, .ref q_t_read, .int t_number, .ref q_t_counts, .ref q_t_scores, .ref q_t_isIn, .ref q_t_order, .int t_ranked, .int t_emptySide, .ref q_t_row, .ref q_t_listing, .int t_listingLength, .long t_hash])), (q_t_text, .inl (cy 0, 120, .inl t_text))] (fun v w => ∃ (r : Int32) (t_at' : Int32) (t_number' : Int32), v = some (.int r) ∧ w = [(q_t, .inr (6, [.ref q_t_m, .ref q_t_saved, .int t_savedCount, .ref q_t_text, .int t_textLength, .int t_code, .int t_at', .ref q_t_read, .int t_number', .ref q_t_counts, .ref q_t_scores, .ref q_t_isIn, .ref q_t_order, .int t_ranked, .int t_emptySide, .ref q_t_row, .ref q_t_listing, .int t_listingLength, .long t_hash])), (q_t_text, .inl (cy 0, 120, .inl t_text))] ∧ Q r t_at' t_number') := by
  refine UC_of (by decide +kernel) (Nat.le_of_ble_eq_true rfl) [(0, .ref q_t), (1, .int x1)] rfl (fun p e s m args below meth c A cx => ?_)
  unfold p_X6_readDigits at h
  refine v_aload_n cx dX6_readDigits_0 rfl 0 rfl ?_
  refine g_X6_66 cx dX6_readDigits_1 0 rfl rfl ?_
  refine v_istore_n (lv' := [(2, .int t_at), (0, .ref q_t), (1, .int x1)]) cx dX6_readDigits_4 rfl (by decide) rfl ?_
  refine v_aload_n cx dX6_readDigits_5 rfl 1 rfl ?_
  refine v_iconst (v := 0) cx dX6_readDigits_6 (by decide) ?_
  refine p_X6_73 (ws' := [(q_t, .inr (6, [.ref q_t_m, .ref q_t_saved, .int t_savedCount, .ref q_t_text, .int t_textLength, .int t_code, .int t_at, .ref q_t_read, .int 0, .ref q_t_counts, .ref q_t_scores, .ref q_t_isIn, .ref q_t_order, .int t_ranked, .int t_emptySide, .ref q_t_row, .ref q_t_listing, .int t_listingLength, .long t_hash])), (q_t_text, .inl (cy 0, 120, .inl t_text))]) cx dX6_readDigits_7 0 rfl rfl rfl (Nat.le_of_ble_eq_true rfl) rfl ?_
  refine v_lv (lv' := [(0, .ref q_t), (1, .int x1), (2, .int t_at)]) [1, 2, 0] rfl ?_
  refine w_X6_readDigits_10 cx q_t q_t_m q_t_saved q_t_text q_t_read q_t_counts q_t_scores q_t_isIn q_t_order q_t_row q_t_listing ?_ N _ _ h
  · intro t_at_4 t_number_5 h
    refine v_aload_n cx dX6_readDigits_66 rfl 0 rfl ?_
    refine g_X6_66 cx dX6_readDigits_67 0 rfl rfl ?_
    refine v_iload_n cx dX6_readDigits_70 rfl 2 rfl ?_
    refine v_icmp_le (tgt := 78) cx dX6_readDigits_71 (by decide) h (fun h => ?_) (fun h => ?_)
    · refine v_iconst (v := 0) cx dX6_readDigits_78 (by decide) ?_
      exact v_ireturn cx rfl dX6_readDigits_79 ⟨_, _, _, rfl, rfl, h⟩
    · refine v_iconst (v := 1) cx dX6_readDigits_74 (by decide) ?_
      refine v_goto (tgt := 79) cx dX6_readDigits_75 (by decide) ?_
      exact v_ireturn cx rfl dX6_readDigits_79 ⟨_, _, _, rfl, rfl, h⟩
abbrev rm_X6_readLanguage : Room := { frames := 2, cells := 0, slots := 0, locals := 45 }
set_option maxHeartbeats 4000000 in
set_option maxRecDepth 100000 in
theorem w_X6_readLanguage_12 {p : Program} {l : Launch} {e : Env} {s : State} {m : MethodId} {args : Array Value} {below : List Frame} {meth : Method} {c : Code} {Q9 : State → Prop} {mn : String} {Ts : List Cond} {D : va_G} {cy : Nat → ClassId} {g : gT} {A : Nat → Prop} (cx : vC p s m args meth c cX6_readLanguage 3 (some .boolean) RX6 mn Ts D cy g A) (q_t q_t_m q_t_saved q_t_text q_t_read q_t_counts q_t_scores q_t_isIn q_t_order q_t_row q_t_listing : Nat) {x1 : Int32} {t_savedCount : Int32} {t_textLength : Int32} {t_code : Int32} {t_number : Int32} {t_ranked : Int32} {t_emptySide : Int32} {t_listingLength : Int32} {t_hash : Int64} {t_text : Nat → Int32} {N : Nat} {K46 : Int32 → Int32 → (Nat → Int32) → Prop} {K54 : Int32 → Int32 → (Nat → Int32) → Prop} (hK46 : ∀ (x2 : Int32) (t_at : Int32) (t_read : Nat → Int32), K46 x2 t_at t_read → vV p l e rm_X6_readLanguage s m args below meth c Q9 3 D A 0 0 [(q_t, .inr (6, [.ref q_t_m, .ref q_t_saved, .int t_savedCount, .ref q_t_text, .int t_textLength, .int t_code, .int t_at, .ref q_t_read, .int t_number, .ref q_t_counts, .ref q_t_scores, .ref q_t_isIn, .ref q_t_order, .int t_ranked, .int t_emptySide, .ref q_t_row, .ref q_t_listing, .int t_listingLength, .long t_hash])), (q_t_text, .inl (cy 0, 120, .inl t_text)), (q_t_read, .inl (cy 0, 40, .inl t_read))] 46 [(0, .ref q_t), (1, .int x1), (2, .int x2)] []) (hK54 : ∀ (x2 : Int32) (t_at : Int32) (t_read : Nat → Int32), K54 x2 t_at t_read → vV p l e rm_X6_readLanguage s m args below meth c Q9 3 D A 0 0 [(q_t, .inr (6, [.ref q_t_m, .ref q_t_saved, .int t_savedCount, .ref q_t_text, .int t_textLength, .int t_code, .int t_at, .ref q_t_read, .int t_number, .ref q_t_counts, .ref q_t_scores, .ref q_t_isIn, .ref q_t_order, .int t_ranked, .int t_emptySide, .ref q_t_row, .ref q_t_listing, .int t_listingLength, .long t_hash])), (q_t_text, .inl (cy 0, 120, .inl t_text)), (q_t_read, .inl (cy 0, 40, .inl t_read))] 54 [(0, .ref q_t), (1, .int x1), (2, .int x2)] []) : ∀ (n : Nat) (x2 : Int32) (t_at : Int32) (t_read : Nat → Int32), p_X6_readLanguage_12 N x1 t_savedCount t_textLength t_code t_number t_ranked t_emptySide t_listingLength t_hash t_text K46 K54 n x2 t_at t_read → vV p l e rm_X6_readLanguage s m args below meth c Q9 3 D A 0 0 [(q_t, .inr (6, [.ref q_t_m, .ref q_t_saved, .int t_savedCount, .ref q_t_text, .int t_textLength, .int t_code, .int t_at, .ref q_t_read, .int t_number, .ref q_t_counts, .ref q_t_scores, .ref q_t_isIn, .ref q_t_order, .int t_ranked, .int t_emptySide, .ref q_t_row, .ref q_t_listing, .int t_listingLength, .long t_hash])), (q_t_text, .inl (cy 0, 120, .inl t_text)), (q_t_read, .inl (cy 0, 40, .inl t_read))] 12 [(0, .ref q_t), (1, .int x1), (2, .int x2)] [] := by
  intro n
  induction n with
  | zero => intro x2 t_at t_read h; exact False.elim h
  | succ n ih =>
    intro x2 t_at t_read h
    unfold p_X6_readLanguage_12 at h
    refine v_iload_n cx dX6_readLanguage_12 rfl 2 rfl ?_
    refine v_iconst (v := 3) cx dX6_readLanguage_13 (by decide) ?_
    refine v_icmp_ge (tgt := 54) cx dX6_readLanguage_14 (by decide) h (fun h => ?_) (fun h => ?_)
    · refine v_lv (lv' := [(0, .ref q_t), (1, .int x1), (2, .int x2)]) [0, 1, 2] rfl ?_
      exact hK54 _ _ _ h
    · refine v_aload_n cx dX6_readLanguage_17 rfl 0 rfl ?_
      refine v_callVpi (As := []) cx (c_X6_here l g D cy q_t q_t_m q_t_saved q_t_text q_t_read q_t_counts q_t_scores q_t_isIn q_t_order q_t_row q_t_listing h) k_X6_69 (by decide) ⟨rfl, rfl⟩ (by decide) rfl rfl (Nat.le_of_ble_eq_true rfl) dX6_readLanguage_18 [0, 1] [2] (by decide) (vj_all 3 rfl (by decide +kernel)) rfl rfl rfl (q0 := 0) rfl rfl (fun r_4 h => ?_)
      refine v_bipush (v := 45) cx dX6_readLanguage_21 (by decide) ?_
      refine v_icmp_ne (tgt := 54) cx dX6_readLanguage_23 (by decide) h (fun h => ?_) (fun h => ?_)
      · refine v_lv (lv' := [(0, .ref q_t), (1, .int x1), (2, .int x2)]) [0, 1, 2] rfl ?_
        exact hK54 _ _ _ h
      · refine v_aload_n cx dX6_readLanguage_26 rfl 0 rfl ?_
        refine v_dup cx dX6_readLanguage_27 rfl ?_
        refine g_X6_66 cx dX6_readLanguage_28 0 rfl rfl ?_
        refine v_iconst (v := 1) cx dX6_readLanguage_31 (by decide) ?_
        refine v_iadd cx dX6_readLanguage_32 ?_
        refine p_X6_66 (ws' := [(q_t, .inr (6, [.ref q_t_m, .ref q_t_saved, .int t_savedCount, .ref q_t_text, .int t_textLength, .int t_code, .int (t_at + 1), .ref q_t_read, .int t_number, .ref q_t_counts, .ref q_t_scores, .ref q_t_isIn, .ref q_t_order, .int t_ranked, .int t_emptySide, .ref q_t_row, .ref q_t_listing, .int t_listingLength, .long t_hash])), (q_t_text, .inl (cy 0, 120, .inl t_text)), (q_t_read, .inl (cy 0, 40, .inl t_read))]) cx dX6_readLanguage_33 0 rfl rfl rfl (Nat.le_of_ble_eq_true rfl) rfl ?_
        refine v_aload_n cx dX6_readLanguage_36 rfl 0 rfl ?_
        refine v_iload_n cx dX6_readLanguage_37 rfl 1 rfl ?_
        refine v_iload_n cx dX6_readLanguage_38 rfl 2 rfl ?_
        refine v_iadd cx dX6_readLanguage_39 ?_
        refine v_callV (As := [.int (x1 + x2)]) cx (c_X6_readName l g D cy q_t q_t_m q_t_saved q_t_text q_t_read q_t_counts q_t_scores q_t_isIn q_t_order q_t_row q_t_listing h) k_X6_76 (by decide) (by decide) rfl rfl (Nat.le_of_ble_eq_true rfl) dX6_readLanguage_40 [0, 1, 2] [] (by decide) rfl rfl rfl (q0 := 0) rfl rfl (fun v9 w9 hp => ?_)
        obtain ⟨r_5, u_6, u_7, rfl, rfl, h⟩ := hp
        refine v_afterJ (ws' := [(q_t, .inr (6, [.ref q_t_m, .ref q_t_saved, .int t_savedCount, .ref q_t_text, .int t_textLength, .int t_code, .int u_6, .ref q_t_read, .int t_number, .ref q_t_counts, .ref q_t_scores, .ref q_t_isIn, .ref q_t_order, .int t_ranked, .int t_emptySide, .ref q_t_row, .ref q_t_listing, .int t_listingLength, .long t_hash])), (q_t_text, .inl (cy 0, 120, .inl t_text)), (q_t_read, .inl (cy 0, 40, .inl u_7))]) (st' := [.int r_5]) (ce := 0) (sl := 0) 3 [3, 4, 5] (by decide +kernel) (by decide +kernel) rfl rfl ⟨rfl, rfl⟩ ?_
        refine v_if_ne (tgt := 48) cx dX6_readLanguage_43 (by decide) h (fun h => ?_) (fun h => ?_)
        · refine v_iinc (v := x2 + 1) (k0 := 2) (lv' := [(2, .int (x2 + 1)), (0, .ref q_t), (1, .int x1)]) cx dX6_readLanguage_48 rfl rfl (by decide) rfl ?_
          refine v_goto (tgt := 12) cx dX6_readLanguage_51 (by decide) ?_
          refine v_lv (lv' := [(0, .ref q_t), (1, .int x1), (2, .int (x2 + 1))]) [1, 2, 0] rfl ?_
          exact ih _ _ _ h
        · refine v_lv (lv' := [(0, .ref q_t), (1, .int x1), (2, .int x2)]) [0, 1, 2] rfl ?_
          exact hK46 _ _ _ h
set_option maxHeartbeats 4000000 in
set_option maxRecDepth 100000 in
theorem c_X6_readLanguage (l : Launch) (g : gT) (D : va_G) (cy : Nat → ClassId) (q_t q_t_m q_t_saved q_t_text q_t_read q_t_counts q_t_scores q_t_isIn q_t_order q_t_row q_t_listing : Nat) {t_savedCount : Int32} {t_textLength : Int32} {t_code : Int32} {t_at : Int32} {t_number : Int32} {t_ranked : Int32} {t_emptySide : Int32} {t_listingLength : Int32} {t_hash : Int64} {t_text : Nat → Int32} {t_read : Nat → Int32} {x1 : Int32} {N : Nat} {Q : Int32 → Int32 → (Nat → Int32) → Prop} (h : p_X6_readLanguage N t_savedCount t_textLength t_code t_at t_number t_ranked t_emptySide t_listingLength t_hash t_text t_read x1 Q) : UC l yX6_readLanguage cX6_readLanguage 3 (some .boolean) rm_X6_readLanguage g D cy [.ref q_t, .int x1] [(q_t, .inr (6, [.ref q_t_m, .ref q_t_saved, .int t_savedCount, .ref q_t_text, .int t_textLength, .int t_code, .int t_at, .ref q_t_read, .int t_number, .ref q_t_counts, .ref q_t_scores, .ref q_t_isIn, .ref q_t_order, .int t_ranked, .int t_emptySide, .ref q_t_row, .ref q_t_listing, .int t_listingLength, .long t_hash])), (q_t_text, .inl (cy 0, 120, .inl t_text)), (q_t_read, .inl (cy 0, 40, .inl t_read))] (fun v w => ∃ (r : Int32) (t_at' : Int32) (t_read' : Nat → Int32), v = some (.int r) ∧ w = [(q_t, .inr (6, [.ref q_t_m, .ref q_t_saved, .int t_savedCount, .ref q_t_text, .int t_textLength, .int t_code, .int t_at', .ref q_t_read, .int t_number, .ref q_t_counts, .ref q_t_scores, .ref q_t_isIn, .ref q_t_order, .int t_ranked, .int t_emptySide, .ref q_t_row, .ref q_t_listing, .int t_listingLength, .long t_hash])), (q_t_text, .inl (cy 0, 120, .inl t_text)), (q_t_read, .inl (cy 0, 40, .inl t_read'))] ∧ Q r t_at' t_read') := by
  refine UC_of (by decide +kernel) (Nat.le_of_ble_eq_true rfl) [(0, .ref q_t), (1, .int x1)] rfl (fun p e s m args below meth c A cx => ?_)
  unfold p_X6_readLanguage at h
  refine v_aload_n cx dX6_readLanguage_0 rfl 0 rfl ?_
  refine v_iload_n cx dX6_readLanguage_1 rfl 1 rfl ?_
  refine v_callV (As := [.int x1]) cx (c_X6_readName l g D cy q_t q_t_m q_t_saved q_t_text q_t_read q_t_counts q_t_scores q_t_isIn q_t_order q_t_row q_t_listing h) k_X6_76 (by decide) (by decide) rfl rfl (Nat.le_of_ble_eq_true rfl) dX6_readLanguage_2 [0, 1, 2] [] (by decide) rfl rfl rfl (q0 := 0) rfl rfl (fun v9 w9 hp => ?_)
  obtain ⟨r_1, u_2, u_3, rfl, rfl, h⟩ := hp
  refine v_afterJ (ws' := [(q_t, .inr (6, [.ref q_t_m, .ref q_t_saved, .int t_savedCount, .ref q_t_text, .int t_textLength, .int t_code, .int u_2, .ref q_t_read, .int t_number, .ref q_t_counts, .ref q_t_scores, .ref q_t_isIn, .ref q_t_order, .int t_ranked, .int t_emptySide, .ref q_t_row, .ref q_t_listing, .int t_listingLength, .long t_hash])), (q_t_text, .inl (cy 0, 120, .inl t_text)), (q_t_read, .inl (cy 0, 40, .inl u_3))]) (st' := [.int r_1]) (ce := 0) (sl := 0) 3 [3, 4, 5] (by decide +kernel) (by decide +kernel) rfl rfl ⟨rfl, rfl⟩ ?_
  refine v_if_ne (tgt := 10) cx dX6_readLanguage_5 (by decide) h (fun h => ?_) (fun h => ?_)
  · refine v_iconst (v := 1) cx dX6_readLanguage_10 (by decide) ?_
    refine v_istore_n (lv' := [(2, .int 1), (0, .ref q_t), (1, .int x1)]) cx dX6_readLanguage_11 rfl (by decide) rfl ?_
    refine v_lv (lv' := [(0, .ref q_t), (1, .int x1), (2, .int 1)]) [1, 2, 0] rfl ?_
    refine w_X6_readLanguage_12 cx q_t q_t_m q_t_saved q_t_text q_t_read q_t_counts q_t_scores q_t_isIn q_t_order q_t_row q_t_listing ?_ ?_ N _ _ _ h
    · intro x2_8 t_at_9 t_read_10 h
      refine v_iconst (v := 0) cx dX6_readLanguage_46 (by decide) ?_
      exact v_ireturn cx rfl dX6_readLanguage_47 ⟨_, _, _, rfl, rfl, h⟩
    · intro x2_11 t_at_12 t_read_13 h
      refine v_iconst (v := 1) cx dX6_readLanguage_54 (by decide) ?_
      exact v_ireturn cx rfl dX6_readLanguage_55 ⟨_, _, _, rfl, rfl, h⟩
  · refine v_iconst (v := 0) cx dX6_readLanguage_8 (by decide) ?_
    exact v_ireturn cx rfl dX6_readLanguage_9 ⟨_, _, _, rfl, rfl, h⟩
abbrev rm_X6_readTypeRange : Room := { frames := 2, cells := 0, slots := 0, locals := 45 }
set_option maxHeartbeats 4000000 in
set_option maxRecDepth 100000 in
theorem c_X6_readTypeRange (l : Launch) (g : gT) (D : va_G) (cy : Nat → ClassId) (q_t q_t_m q_t_saved q_t_text q_t_read q_t_counts q_t_scores q_t_isIn q_t_order q_t_row q_t_listing : Nat) {t_savedCount : Int32} {t_textLength : Int32} {t_code : Int32} {t_at : Int32} {t_number : Int32} {t_ranked : Int32} {t_emptySide : Int32} {t_listingLength : Int32} {t_hash : Int64} {t_text : Nat → Int32} {t_read : Nat → Int32} {x1 : Int32} {N : Nat} {Q : Int32 → Int32 → (Nat → Int32) → Prop} (h : p_X6_readTypeRange N t_savedCount t_textLength t_code t_at t_number t_ranked t_emptySide t_listingLength t_hash t_text t_read x1 Q) : UC l yX6_readTypeRange cX6_readTypeRange 2 (some .boolean) rm_X6_readTypeRange g D cy [.ref q_t, .int x1] [(q_t, .inr (6, [.ref q_t_m, .ref q_t_saved, .int t_savedCount, .ref q_t_text, .int t_textLength, .int t_code, .int t_at, .ref q_t_read, .int t_number, .ref q_t_counts, .ref q_t_scores, .ref q_t_isIn, .ref q_t_order, .int t_ranked, .int t_emptySide, .ref q_t_row, .ref q_t_listing, .int t_listingLength, .long t_hash])), (q_t_text, .inl (cy 0, 120, .inl t_text)), (q_t_read, .inl (cy 0, 40, .inl t_read))] (fun v w => ∃ (r : Int32) (t_at' : Int32) (t_read' : Nat → Int32), v = some (.int r) ∧ w = [(q_t, .inr (6, [.ref q_t_m, .ref q_t_saved, .int t_savedCount, .ref q_t_text, .int t_textLength, .int t_code, .int t_at', .ref q_t_read, .int t_number, .ref q_t_counts, .ref q_t_scores, .ref q_t_isIn, .ref q_t_order, .int t_ranked, .int t_emptySide, .ref q_t_row, .ref q_t_listing, .int t_listingLength, .long t_hash])), (q_t_text, .inl (cy 0, 120, .inl t_text)), (q_t_read, .inl (cy 0, 40, .inl t_read'))] ∧ Q r t_at' t_read') := by
  refine UC_of (by decide +kernel) (Nat.le_of_ble_eq_true rfl) [(0, .ref q_t), (1, .int x1)] rfl (fun p e s m args below meth c A cx => ?_)
  unfold p_X6_readTypeRange at h
  refine v_aload_n cx dX6_readTypeRange_0 rfl 0 rfl ?_
  refine v_bipush (v := 42) cx dX6_readTypeRange_1 (by decide) ?_
  refine v_callV (As := [.int 42]) cx (c_X6_takes l g D cy q_t q_t_m q_t_saved q_t_text q_t_read q_t_counts q_t_scores q_t_isIn q_t_order q_t_row q_t_listing h) k_X6_80 (by decide) (by decide) rfl rfl (Nat.le_of_ble_eq_true rfl) dX6_readTypeRange_3 [0, 1] [2] (by decide) rfl rfl rfl (q0 := 0) rfl rfl (fun v9 w9 hp => ?_)
  obtain ⟨r_1, u_2, rfl, rfl, h⟩ := hp
  refine v_afterJ (ws' := [(q_t, .inr (6, [.ref q_t_m, .ref q_t_saved, .int t_savedCount, .ref q_t_text, .int t_textLength, .int t_code, .int u_2, .ref q_t_read, .int t_number, .ref q_t_counts, .ref q_t_scores, .ref q_t_isIn, .ref q_t_order, .int t_ranked, .int t_emptySide, .ref q_t_row, .ref q_t_listing, .int t_listingLength, .long t_hash])), (q_t_text, .inl (cy 0, 120, .inl t_text)), (q_t_read, .inl (cy 0, 40, .inl t_read))]) (st' := [.int r_1]) (ce := 0) (sl := 0) 3 [3, 4, 2] (by decide +kernel) (by decide +kernel) rfl rfl ⟨rfl, rfl⟩ ?_
  refine v_if_eq (tgt := 33) cx dX6_readTypeRange_6 (by decide) h (fun h => ?_) (fun h => ?_)
  · refine v_aload_n cx dX6_readTypeRange_33 rfl 0 rfl ?_
    refine v_iload_n cx dX6_readTypeRange_34 rfl 1 rfl ?_
    refine v_callV (As := [.int x1]) cx (c_X6_readName l g D cy q_t q_t_m q_t_saved q_t_text q_t_read q_t_counts q_t_scores q_t_isIn q_t_order q_t_row q_t_listing h) k_X6_76 (by decide) (by decide) rfl rfl (Nat.le_of_ble_eq_true rfl) dX6_readTypeRange_35 [0, 1, 2] [] (by decide) rfl rfl rfl (q0 := 0) rfl rfl (fun v9 w9 hp => ?_)
    obtain ⟨r_3, u_4, u_5, rfl, rfl, h⟩ := hp
    refine v_afterJ (ws' := [(q_t, .inr (6, [.ref q_t_m, .ref q_t_saved, .int t_savedCount, .ref q_t_text, .int t_textLength, .int t_code, .int u_4, .ref q_t_read, .int t_number, .ref q_t_counts, .ref q_t_scores, .ref q_t_isIn, .ref q_t_order, .int t_ranked, .int t_emptySide, .ref q_t_row, .ref q_t_listing, .int t_listingLength, .long t_hash])), (q_t_text, .inl (cy 0, 120, .inl t_text)), (q_t_read, .inl (cy 0, 40, .inl u_5))]) (st' := [.int r_3]) (ce := 0) (sl := 0) 3 [3, 4, 5] (by decide +kernel) (by decide +kernel) rfl rfl ⟨rfl, rfl⟩ ?_
    refine v_if_eq (tgt := 73) cx dX6_readTypeRange_38 (by decide) h (fun h => ?_) (fun h => ?_)
    · refine v_iconst (v := 0) cx dX6_readTypeRange_73 (by decide) ?_
      exact v_ireturn cx rfl dX6_readTypeRange_74 ⟨_, _, _, rfl, rfl, h⟩
    · refine v_aload_n cx dX6_readTypeRange_41 rfl 0 rfl ?_
      refine v_bipush (v := 47) cx dX6_readTypeRange_42 (by decide) ?_
      refine v_callV (As := [.int 47]) cx (c_X6_takes l g D cy q_t q_t_m q_t_saved q_t_text q_t_read q_t_counts q_t_scores q_t_isIn q_t_order q_t_row q_t_listing h) k_X6_80 (by decide) (by decide) rfl rfl (Nat.le_of_ble_eq_true rfl) dX6_readTypeRange_44 [0, 1] [2] (by decide) rfl rfl rfl (q0 := 0) rfl rfl (fun v9 w9 hp => ?_)
      obtain ⟨r_6, u_7, rfl, rfl, h⟩ := hp
      refine v_afterJ (ws' := [(q_t, .inr (6, [.ref q_t_m, .ref q_t_saved, .int t_savedCount, .ref q_t_text, .int t_textLength, .int t_code, .int u_7, .ref q_t_read, .int t_number, .ref q_t_counts, .ref q_t_scores, .ref q_t_isIn, .ref q_t_order, .int t_ranked, .int t_emptySide, .ref q_t_row, .ref q_t_listing, .int t_listingLength, .long t_hash])), (q_t_text, .inl (cy 0, 120, .inl t_text)), (q_t_read, .inl (cy 0, 40, .inl u_5))]) (st' := [.int r_6]) (ce := 0) (sl := 0) 3 [3, 4, 2] (by decide +kernel) (by decide +kernel) rfl rfl ⟨rfl, rfl⟩ ?_
      refine v_if_eq (tgt := 73) cx dX6_readTypeRange_47 (by decide) h (fun h => ?_) (fun h => ?_)
      · refine v_iconst (v := 0) cx dX6_readTypeRange_73 (by decide) ?_
        exact v_ireturn cx rfl dX6_readTypeRange_74 ⟨_, _, _, rfl, rfl, h⟩
      · refine v_aload_n cx dX6_readTypeRange_50 rfl 0 rfl ?_
        refine v_bipush (v := 42) cx dX6_readTypeRange_51 (by decide) ?_
        refine v_callV (As := [.int 42]) cx (c_X6_takes l g D cy q_t q_t_m q_t_saved q_t_text q_t_read q_t_counts q_t_scores q_t_isIn q_t_order q_t_row q_t_listing h) k_X6_80 (by decide) (by decide) rfl rfl (Nat.le_of_ble_eq_true rfl) dX6_readTypeRange_53 [0, 1] [2] (by decide) rfl rfl rfl (q0 := 0) rfl rfl (fun v9 w9 hp => ?_)
        obtain ⟨r_8, u_9, rfl, rfl, h⟩ := hp
        refine v_afterJ (ws' := [(q_t, .inr (6, [.ref q_t_m, .ref q_t_saved, .int t_savedCount, .ref q_t_text, .int t_textLength, .int t_code, .int u_9, .ref q_t_read, .int t_number, .ref q_t_counts, .ref q_t_scores, .ref q_t_isIn, .ref q_t_order, .int t_ranked, .int t_emptySide, .ref q_t_row, .ref q_t_listing, .int t_listingLength, .long t_hash])), (q_t_text, .inl (cy 0, 120, .inl t_text)), (q_t_read, .inl (cy 0, 40, .inl u_5))]) (st' := [.int r_8]) (ce := 0) (sl := 0) 3 [3, 4, 2] (by decide +kernel) (by decide +kernel) rfl rfl ⟨rfl, rfl⟩ ?_
        refine v_if_ne (tgt := 69) cx dX6_readTypeRange_56 (by decide) h (fun h => ?_) (fun h => ?_)
        · refine v_iconst (v := 1) cx dX6_readTypeRange_69 (by decide) ?_
          refine v_goto (tgt := 74) cx dX6_readTypeRange_70 (by decide) ?_
          exact v_ireturn cx rfl dX6_readTypeRange_74 ⟨_, _, _, rfl, rfl, h⟩
        · refine v_aload_n cx dX6_readTypeRange_59 rfl 0 rfl ?_
          refine v_iload_n cx dX6_readTypeRange_60 rfl 1 rfl ?_
          refine v_iconst (v := 1) cx dX6_readTypeRange_61 (by decide) ?_
          refine v_iadd cx dX6_readTypeRange_62 ?_
          refine v_callV (As := [.int (x1 + 1)]) cx (c_X6_readName l g D cy q_t q_t_m q_t_saved q_t_text q_t_read q_t_counts q_t_scores q_t_isIn q_t_order q_t_row q_t_listing h) k_X6_76 (by decide) (by decide) rfl rfl (Nat.le_of_ble_eq_true rfl) dX6_readTypeRange_63 [0, 1, 2] [] (by decide) rfl rfl rfl (q0 := 0) rfl rfl (fun v9 w9 hp => ?_)
          obtain ⟨r_10, u_11, u_12, rfl, rfl, h⟩ := hp
          refine v_afterJ (ws' := [(q_t, .inr (6, [.ref q_t_m, .ref q_t_saved, .int t_savedCount, .ref q_t_text, .int t_textLength, .int t_code, .int u_11, .ref q_t_read, .int t_number, .ref q_t_counts, .ref q_t_scores, .ref q_t_isIn, .ref q_t_order, .int t_ranked, .int t_emptySide, .ref q_t_row, .ref q_t_listing, .int t_listingLength, .long t_hash])), (q_t_text, .inl (cy 0, 120, .inl t_text)), (q_t_read, .inl (cy 0, 40, .inl u_12))]) (st' := [.int r_10]) (ce := 0) (sl := 0) 3 [3, 4, 5] (by decide +kernel) (by decide +kernel) rfl rfl ⟨rfl, rfl⟩ ?_
          refine v_if_eq (tgt := 73) cx dX6_readTypeRange_66 (by decide) h (fun h => ?_) (fun h => ?_)
          · refine v_iconst (v := 0) cx dX6_readTypeRange_73 (by decide) ?_
            exact v_ireturn cx rfl dX6_readTypeRange_74 ⟨_, _, _, rfl, rfl, h⟩
          · refine v_iconst (v := 1) cx dX6_readTypeRange_69 (by decide) ?_
            refine v_goto (tgt := 74) cx dX6_readTypeRange_70 (by decide) ?_
            exact v_ireturn cx rfl dX6_readTypeRange_74 ⟨_, _, _, rfl, rfl, h⟩
  · refine v_aload_n cx dX6_readTypeRange_9 rfl 0 rfl ?_
    refine v_bipush (v := 47) cx dX6_readTypeRange_10 (by decide) ?_
    refine v_callV (As := [.int 47]) cx (c_X6_takes l g D cy q_t q_t_m q_t_saved q_t_text q_t_read q_t_counts q_t_scores q_t_isIn q_t_order q_t_row q_t_listing h) k_X6_80 (by decide) (by decide) rfl rfl (Nat.le_of_ble_eq_true rfl) dX6_readTypeRange_12 [0, 1] [2] (by decide) rfl rfl rfl (q0 := 0) rfl rfl (fun v9 w9 hp => ?_)
    obtain ⟨r_13, u_14, rfl, rfl, h⟩ := hp
    refine v_afterJ (ws' := [(q_t, .inr (6, [.ref q_t_m, .ref q_t_saved, .int t_savedCount, .ref q_t_text, .int t_textLength, .int t_code, .int u_14, .ref q_t_read, .int t_number, .ref q_t_counts, .ref q_t_scores, .ref q_t_isIn, .ref q_t_order, .int t_ranked, .int t_emptySide, .ref q_t_row, .ref q_t_listing, .int t_listingLength, .long t_hash])), (q_t_text, .inl (cy 0, 120, .inl t_text)), (q_t_read, .inl (cy 0, 40, .inl t_read))]) (st' := [.int r_13]) (ce := 0) (sl := 0) 3 [3, 4, 2] (by decide +kernel) (by decide +kernel) rfl rfl ⟨rfl, rfl⟩ ?_
    refine v_if_eq (tgt := 31) cx dX6_readTypeRange_15 (by decide) h (fun h => ?_) (fun h => ?_)
    · refine v_iconst (v := 0) cx dX6_readTypeRange_31 (by decide) ?_
      exact v_ireturn cx rfl dX6_readTypeRange_32 ⟨_, _, _, rfl, rfl, h⟩
    · refine v_aload_n cx dX6_readTypeRange_18 rfl 0 rfl ?_
      refine v_bipush (v := 42) cx dX6_readTypeRange_19 (by decide) ?_
      refine v_callV (As := [.int 42]) cx (c_X6_takes l g D cy q_t q_t_m q_t_saved q_t_text q_t_read q_t_counts q_t_scores q_t_isIn q_t_order q_t_row q_t_listing h) k_X6_80 (by decide) (by decide) rfl rfl (Nat.le_of_ble_eq_true rfl) dX6_readTypeRange_21 [0, 1] [2] (by decide) rfl rfl rfl (q0 := 0) rfl rfl (fun v9 w9 hp => ?_)
      obtain ⟨r_15, u_16, rfl, rfl, h⟩ := hp
      refine v_afterJ (ws' := [(q_t, .inr (6, [.ref q_t_m, .ref q_t_saved, .int t_savedCount, .ref q_t_text, .int t_textLength, .int t_code, .int u_16, .ref q_t_read, .int t_number, .ref q_t_counts, .ref q_t_scores, .ref q_t_isIn, .ref q_t_order, .int t_ranked, .int t_emptySide, .ref q_t_row, .ref q_t_listing, .int t_listingLength, .long t_hash])), (q_t_text, .inl (cy 0, 120, .inl t_text)), (q_t_read, .inl (cy 0, 40, .inl t_read))]) (st' := [.int r_15]) (ce := 0) (sl := 0) 3 [3, 4, 2] (by decide +kernel) (by decide +kernel) rfl rfl ⟨rfl, rfl⟩ ?_
      refine v_if_eq (tgt := 31) cx dX6_readTypeRange_24 (by decide) h (fun h => ?_) (fun h => ?_)
      · refine v_iconst (v := 0) cx dX6_readTypeRange_31 (by decide) ?_
        exact v_ireturn cx rfl dX6_readTypeRange_32 ⟨_, _, _, rfl, rfl, h⟩
      · refine v_iconst (v := 1) cx dX6_readTypeRange_27 (by decide) ?_
        refine v_goto (tgt := 32) cx dX6_readTypeRange_28 (by decide) ?_
        exact v_ireturn cx rfl dX6_readTypeRange_32 ⟨_, _, _, rfl, rfl, h⟩
abbrev rm_X6_readRange : Room := { frames := 3, cells := 0, slots := 0, locals := 67 }
set_option maxHeartbeats 4000000 in
set_option maxRecDepth 100000 in
theorem c_X6_readRange (l : Launch) (g : gT) (D : va_G) (cy : Nat → ClassId) (q_t q_t_m q_t_saved q_t_text q_t_read q_t_counts q_t_scores q_t_isIn q_t_order q_t_row q_t_listing : Nat) {t_savedCount : Int32} {t_textLength : Int32} {t_code : Int32} {t_at : Int32} {t_number : Int32} {t_ranked : Int32} {t_emptySide : Int32} {t_listingLength : Int32} {t_hash : Int64} {t_text : Nat → Int32} {t_read : Nat → Int32} {x1 : Int32} {x2 : Int32} {N : Nat} {Q : Int32 → Int32 → (Nat → Int32) → Prop} (h : p_X6_readRange N t_savedCount t_textLength t_code t_at t_number t_ranked t_emptySide t_listingLength t_hash t_text t_read x1 x2 Q) : UC l yX6_readRange cX6_readRange 3 (some .boolean) rm_X6_readRange g D cy [.ref q_t, .int x1, .int x2] [(q_t, .inr (6, [.ref q_t_m, .ref q_t_saved, .int t_savedCount, .ref q_t_text, .int t_textLength, .int t_code, .int t_at, .ref q_t_read, .int t_number, .ref q_t_counts, .ref q_t_scores, .ref q_t_isIn, .ref q_t_order, .int t_ranked, .int t_emptySide, .ref q_t_row, .ref q_t_listing, .int t_listingLength, .long t_hash])), (q_t_text, .inl (cy 0, 120, .inl t_text)), (q_t_read, .inl (cy 0, 40, .inl t_read))] (fun v w => ∃ (r : Int32) (t_at' : Int32) (t_read' : Nat → Int32), v = some (.int r) ∧ w = [(q_t, .inr (6, [.ref q_t_m, .ref q_t_saved, .int t_savedCount, .ref q_t_text, .int t_textLength, .int t_code, .int t_at', .ref q_t_read, .int t_number, .ref q_t_counts, .ref q_t_scores, .ref q_t_isIn, .ref q_t_order, .int t_ranked, .int t_emptySide, .ref q_t_row, .ref q_t_listing, .int t_listingLength, .long t_hash])), (q_t_text, .inl (cy 0, 120, .inl t_text)), (q_t_read, .inl (cy 0, 40, .inl t_read'))] ∧ Q r t_at' t_read') := by
  refine UC_of (by decide +kernel) (Nat.le_of_ble_eq_true rfl) [(0, .ref q_t), (1, .int x1), (2, .int x2)] rfl (fun p e s m args below meth c A cx => ?_)
  unfold p_X6_readRange at h
  refine v_iload_n cx dX6_readRange_0 rfl 1 rfl ?_
  refine v_if_ne (tgt := 10) cx dX6_readRange_1 (by decide) h (fun h => ?_) (fun h => ?_)
  · refine v_aload_n cx dX6_readRange_10 rfl 0 rfl ?_
    refine v_bipush (v := 42) cx dX6_readRange_11 (by decide) ?_
    refine v_callV (As := [.int 42]) cx (c_X6_takes l g D cy q_t q_t_m q_t_saved q_t_text q_t_read q_t_counts q_t_scores q_t_isIn q_t_order q_t_row q_t_listing h) k_X6_80 (by decide) (by decide) rfl rfl (Nat.le_of_ble_eq_true rfl) dX6_readRange_13 [0, 1] [2] (by decide) rfl rfl rfl (q0 := 0) rfl rfl (fun v9 w9 hp => ?_)
    obtain ⟨r_1, u_2, rfl, rfl, h⟩ := hp
    refine v_afterJ (ws' := [(q_t, .inr (6, [.ref q_t_m, .ref q_t_saved, .int t_savedCount, .ref q_t_text, .int t_textLength, .int t_code, .int u_2, .ref q_t_read, .int t_number, .ref q_t_counts, .ref q_t_scores, .ref q_t_isIn, .ref q_t_order, .int t_ranked, .int t_emptySide, .ref q_t_row, .ref q_t_listing, .int t_listingLength, .long t_hash])), (q_t_text, .inl (cy 0, 120, .inl t_text)), (q_t_read, .inl (cy 0, 40, .inl t_read))]) (st' := [.int r_1]) (ce := 0) (sl := 0) 3 [3, 4, 2] (by decide +kernel) (by decide +kernel) rfl rfl ⟨rfl, rfl⟩ ?_
    refine v_if_ne (tgt := 43) cx dX6_readRange_16 (by decide) h (fun h => ?_) (fun h => ?_)
    · refine v_iconst (v := 1) cx dX6_readRange_43 (by decide) ?_
      refine v_goto (tgt := 48) cx dX6_readRange_44 (by decide) ?_
      exact v_ireturn cx rfl dX6_readRange_48 ⟨_, _, _, rfl, rfl, h⟩
    · refine v_iload_n cx dX6_readRange_19 rfl 1 rfl ?_
      refine v_iconst (v := 1) cx dX6_readRange_20 (by decide) ?_
      refine v_icmp_ne (tgt := 35) cx dX6_readRange_21 (by decide) h (fun h => ?_) (fun h => ?_)
      · refine v_aload_n cx dX6_readRange_35 rfl 0 rfl ?_
        refine v_iload_n cx dX6_readRange_36 rfl 2 rfl ?_
        refine v_callV (As := [.int x2]) cx (c_X6_readName l g D cy q_t q_t_m q_t_saved q_t_text q_t_read q_t_counts q_t_scores q_t_isIn q_t_order q_t_row q_t_listing h) k_X6_76 (by decide) (by decide) rfl rfl (Nat.le_of_ble_eq_true rfl) dX6_readRange_37 [0, 1, 2] [] (by decide) rfl rfl rfl (q0 := 0) rfl rfl (fun v9 w9 hp => ?_)
        obtain ⟨r_3, u_4, u_5, rfl, rfl, h⟩ := hp
        refine v_afterJ (ws' := [(q_t, .inr (6, [.ref q_t_m, .ref q_t_saved, .int t_savedCount, .ref q_t_text, .int t_textLength, .int t_code, .int u_4, .ref q_t_read, .int t_number, .ref q_t_counts, .ref q_t_scores, .ref q_t_isIn, .ref q_t_order, .int t_ranked, .int t_emptySide, .ref q_t_row, .ref q_t_listing, .int t_listingLength, .long t_hash])), (q_t_text, .inl (cy 0, 120, .inl t_text)), (q_t_read, .inl (cy 0, 40, .inl u_5))]) (st' := [.int r_3]) (ce := 0) (sl := 0) 3 [3, 4, 5] (by decide +kernel) (by decide +kernel) rfl rfl ⟨rfl, rfl⟩ ?_
        refine v_if_eq (tgt := 47) cx dX6_readRange_40 (by decide) h (fun h => ?_) (fun h => ?_)
        · refine v_iconst (v := 0) cx dX6_readRange_47 (by decide) ?_
          exact v_ireturn cx rfl dX6_readRange_48 ⟨_, _, _, rfl, rfl, h⟩
        · refine v_iconst (v := 1) cx dX6_readRange_43 (by decide) ?_
          refine v_goto (tgt := 48) cx dX6_readRange_44 (by decide) ?_
          exact v_ireturn cx rfl dX6_readRange_48 ⟨_, _, _, rfl, rfl, h⟩
      · refine v_aload_n cx dX6_readRange_24 rfl 0 rfl ?_
        refine v_iload_n cx dX6_readRange_25 rfl 2 rfl ?_
        refine v_callV (As := [.int x2]) cx (c_X6_readLanguage l g D cy q_t q_t_m q_t_saved q_t_text q_t_read q_t_counts q_t_scores q_t_isIn q_t_order q_t_row q_t_listing h) k_X6_86 (by decide) (by decide) rfl rfl (Nat.le_of_ble_eq_true rfl) dX6_readRange_26 [0, 1, 2] [] (by decide) rfl rfl rfl (q0 := 0) rfl rfl (fun v9 w9 hp => ?_)
        obtain ⟨r_6, u_7, u_8, rfl, rfl, h⟩ := hp
        refine v_afterJ (ws' := [(q_t, .inr (6, [.ref q_t_m, .ref q_t_saved, .int t_savedCount, .ref q_t_text, .int t_textLength, .int t_code, .int u_7, .ref q_t_read, .int t_number, .ref q_t_counts, .ref q_t_scores, .ref q_t_isIn, .ref q_t_order, .int t_ranked, .int t_emptySide, .ref q_t_row, .ref q_t_listing, .int t_listingLength, .long t_hash])), (q_t_text, .inl (cy 0, 120, .inl t_text)), (q_t_read, .inl (cy 0, 40, .inl u_8))]) (st' := [.int r_6]) (ce := 0) (sl := 0) 3 [3, 4, 5] (by decide +kernel) (by decide +kernel) rfl rfl ⟨rfl, rfl⟩ ?_
        refine v_if_eq (tgt := 47) cx dX6_readRange_29 (by decide) h (fun h => ?_) (fun h => ?_)
        · refine v_iconst (v := 0) cx dX6_readRange_47 (by decide) ?_
          exact v_ireturn cx rfl dX6_readRange_48 ⟨_, _, _, rfl, rfl, h⟩
        · refine v_goto (tgt := 43) cx dX6_readRange_32 (by decide) ?_
          refine v_iconst (v := 1) cx dX6_readRange_43 (by decide) ?_
          refine v_goto (tgt := 48) cx dX6_readRange_44 (by decide) ?_
          exact v_ireturn cx rfl dX6_readRange_48 ⟨_, _, _, rfl, rfl, h⟩
  · refine v_aload_n cx dX6_readRange_4 rfl 0 rfl ?_
    refine v_iload_n cx dX6_readRange_5 rfl 2 rfl ?_
    refine v_callV (As := [.int x2]) cx (c_X6_readTypeRange l g D cy q_t q_t_m q_t_saved q_t_text q_t_read q_t_counts q_t_scores q_t_isIn q_t_order q_t_row q_t_listing h) k_X6_83 (by decide) (by decide) rfl rfl (Nat.le_of_ble_eq_true rfl) dX6_readRange_6 [0, 1, 2] [] (by decide) rfl rfl rfl (q0 := 0) rfl rfl (fun v9 w9 hp => ?_)
    obtain ⟨r_9, u_10, u_11, rfl, rfl, h⟩ := hp
    refine v_afterJ (ws' := [(q_t, .inr (6, [.ref q_t_m, .ref q_t_saved, .int t_savedCount, .ref q_t_text, .int t_textLength, .int t_code, .int u_10, .ref q_t_read, .int t_number, .ref q_t_counts, .ref q_t_scores, .ref q_t_isIn, .ref q_t_order, .int t_ranked, .int t_emptySide, .ref q_t_row, .ref q_t_listing, .int t_listingLength, .long t_hash])), (q_t_text, .inl (cy 0, 120, .inl t_text)), (q_t_read, .inl (cy 0, 40, .inl u_11))]) (st' := [.int r_9]) (ce := 0) (sl := 0) 3 [3, 4, 5] (by decide +kernel) (by decide +kernel) rfl rfl ⟨rfl, rfl⟩ ?_
    exact v_ireturn cx (congrArg Value.int h.1) dX6_readRange_9 ⟨_, _, _, rfl, rfl, h.2⟩
abbrev rm_X6_readWeight : Room := { frames := 2, cells := 0, slots := 0, locals := 44 }
set_option maxHeartbeats 4000000 in
set_option maxRecDepth 100000 in
theorem c_X6_readWeight (l : Launch) (g : gT) (D : va_G) (cy : Nat → ClassId) (q_t q_t_m q_t_saved q_t_text q_t_read q_t_counts q_t_scores q_t_isIn q_t_order q_t_row q_t_listing : Nat) {t_savedCount : Int32} {t_textLength : Int32} {t_code : Int32} {t_at : Int32} {t_number : Int32} {t_ranked : Int32} {t_emptySide : Int32} {t_listingLength : Int32} {t_hash : Int64} {t_text : Nat → Int32} {N : Nat} {Q : Int32 → Int32 → Int32 → Prop} (h : p_X6_readWeight N t_savedCount t_textLength t_code t_at t_number t_ranked t_emptySide t_listingLength t_hash t_text Q) : UC l yX6_readWeight cX6_readWeight 5 (some .boolean) rm_X6_readWeight g D cy [.ref q_t] [(q_t, .inr (6, [.ref q_t_m, .ref q_t_saved, .int t_savedCount, .ref q_t_text, .int t_textLength, .int t_code, .int t_at, .ref q_t_read, .int t_number, .ref q_t_counts, .ref q_t_scores, .ref q_t_isIn, .ref q_t_order, .int t_ranked, .int t_emptySide, .ref q_t_row, .ref q_t_listing, .int t_listingLength, .long t_hash])), (q_t_text, .inl (cy 0, 120, .inl t_text))] (fun v w => ∃ (r : Int32) (t_at' : Int32) (t_number' : Int32), v = some (.int r) ∧ w = [(q_t, .inr (6, [.ref q_t_m, .ref q_t_saved, .int t_savedCount, .ref q_t_text, .int t_textLength, .int t_code, .int t_at', .ref q_t_read, .int t_number', .ref q_t_counts, .ref q_t_scores, .ref q_t_isIn, .ref q_t_order, .int t_ranked, .int t_emptySide, .ref q_t_row, .ref q_t_listing, .int t_listingLength, .long t_hash])), (q_t_text, .inl (cy 0, 120, .inl t_text))] ∧ Q r t_at' t_number') := by
  refine UC_of (by decide +kernel) (Nat.le_of_ble_eq_true rfl) [(0, .ref q_t)] rfl (fun p e s m args below meth c A cx => ?_)
  unfold p_X6_readWeight at h
  refine v_aload_n cx dX6_readWeight_0 rfl 0 rfl ?_
  refine v_callV (As := []) cx (c_X6_skips l g D cy q_t q_t_m q_t_saved q_t_text q_t_read q_t_counts q_t_scores q_t_isIn q_t_order q_t_row q_t_listing h) k_X6_89 (by decide) (by decide) rfl rfl (Nat.le_of_ble_eq_true rfl) dX6_readWeight_1 [0, 1] [] (by decide) rfl rfl rfl (q0 := 0) rfl rfl (fun v9 w9 hp => ?_)
  obtain ⟨r_1, u_2, rfl, rfl, h⟩ := hp
  refine v_afterJ (ws' := [(q_t, .inr (6, [.ref q_t_m, .ref q_t_saved, .int t_savedCount, .ref q_t_text, .int t_textLength, .int t_code, .int u_2, .ref q_t_read, .int t_number, .ref q_t_counts, .ref q_t_scores, .ref q_t_isIn, .ref q_t_order, .int t_ranked, .int t_emptySide, .ref q_t_row, .ref q_t_listing, .int t_listingLength, .long t_hash])), (q_t_text, .inl (cy 0, 120, .inl t_text))]) (st' := [.int r_1]) (ce := 0) (sl := 0) 2 [2, 3] (by decide +kernel) (by decide +kernel) rfl rfl ⟨rfl, rfl⟩ ?_
  refine v_istore_n (lv' := [(1, .int r_1), (0, .ref q_t)]) cx dX6_readWeight_4 rfl (by decide) rfl ?_
  refine v_aload_n cx dX6_readWeight_5 rfl 1 rfl ?_
  refine g_X6_66 cx dX6_readWeight_6 0 rfl rfl ?_
  refine v_istore_n (lv' := [(2, .int u_2), (1, .int r_1), (0, .ref q_t)]) cx dX6_readWeight_9 rfl (by decide) rfl ?_
  refine v_aload_n cx dX6_readWeight_10 rfl 2 rfl ?_
  refine v_iconst (v := 4) cx dX6_readWeight_11 (by decide) ?_
  refine v_callV (As := [.int 4]) cx (c_X6_readDigits l g D cy q_t q_t_m q_t_saved q_t_text q_t_read q_t_counts q_t_scores q_t_isIn q_t_order q_t_row q_t_listing h) k_X6_93 (by decide) (by decide) rfl rfl (Nat.le_of_ble_eq_true rfl) dX6_readWeight_12 [0, 1] [] (by decide) rfl rfl rfl (q0 := 0) rfl rfl (fun v9 w9 hp => ?_)
  obtain ⟨r_3, u_4, u_5, rfl, rfl, h⟩ := hp
  refine v_afterJ (ws' := [(q_t, .inr (6, [.ref q_t_m, .ref q_t_saved, .int t_savedCount, .ref q_t_text, .int t_textLength, .int t_code, .int u_4, .ref q_t_read, .int u_5, .ref q_t_counts, .ref q_t_scores, .ref q_t_isIn, .ref q_t_order, .int t_ranked, .int t_emptySide, .ref q_t_row, .ref q_t_listing, .int t_listingLength, .long t_hash])), (q_t_text, .inl (cy 0, 120, .inl t_text))]) (st' := [.int r_3]) (ce := 0) (sl := 0) 2 [2, 3] (by decide +kernel) (by decide +kernel) rfl rfl ⟨rfl, rfl⟩ ?_
  refine v_if_ne (tgt := 20) cx dX6_readWeight_15 (by decide) h (fun h => ?_) (fun h => ?_)
  · refine v_aload_n cx dX6_readWeight_20 rfl 2 rfl ?_
    refine v_callVpi (As := []) cx (c_X6_here l g D cy q_t q_t_m q_t_saved q_t_text q_t_read q_t_counts q_t_scores q_t_isIn q_t_order q_t_row q_t_listing h) k_X6_69 (by decide) ⟨rfl, rfl⟩ (by decide) rfl rfl (Nat.le_of_ble_eq_true rfl) dX6_readWeight_21 [0, 1] [] (by decide) (vj_all 2 rfl (by decide +kernel)) rfl rfl rfl (q0 := 0) rfl rfl (fun r_6 h => ?_)
    refine v_bipush (v := 48) cx dX6_readWeight_24 (by decide) ?_
    refine v_bipush (v := 57) cx dX6_readWeight_26 (by decide) ?_
    refine v_callSpi (As := [.int r_6, .int 48, .int 57]) cx (c_X6_in l g D cy  h) k_X6_51 (by decide) ⟨rfl, rfl⟩ (by decide) rfl rfl (Nat.le_of_ble_eq_true rfl) dX6_readWeight_28 [] [0, 1] (by decide) (vj_all 2 rfl (by decide +kernel)) rfl rfl rfl (fun r_7 h => ?_)
    refine v_istore_n (lv' := [(3, .int r_7), (2, .int u_2), (1, .int r_1), (0, .ref q_t)]) cx dX6_readWeight_31 rfl (by decide) rfl ?_
    refine v_aload_n cx dX6_readWeight_32 rfl 3 rfl ?_
    refine g_X6_73 cx dX6_readWeight_33 0 rfl rfl ?_
    refine v_sipush (v := 1000) cx dX6_readWeight_36 (by decide) ?_
    refine v_icmp_le (tgt := 46) cx dX6_readWeight_39 (by decide) h (fun h => ?_) (fun h => ?_)
    · refine v_iconst (v := 0) cx dX6_readWeight_46 (by decide) ?_
      refine v_istore (lv' := [(4, .int 0), (3, .int r_7), (2, .int u_2), (1, .int r_1), (0, .ref q_t)]) cx dX6_readWeight_47 (by decide) rfl ?_
      refine v_aload_n cx dX6_readWeight_49 rfl 4 rfl ?_
      refine v_iload cx dX6_readWeight_50 0 rfl ?_
      refine v_if_eq (tgt := 63) (P1 := True) (P2 := False) cx dX6_readWeight_52 (by decide) (by decide) (fun _ => ?_) (fun z => z.elim)
      refine v_aload_n cx dX6_readWeight_63 rfl 4 rfl ?_
      refine g_X6_66 cx dX6_readWeight_64 0 rfl rfl ?_
      refine p_X6_66 (ws' := [(q_t, .inr (6, [.ref q_t_m, .ref q_t_saved, .int t_savedCount, .ref q_t_text, .int t_textLength, .int t_code, .int u_4, .ref q_t_read, .int u_5, .ref q_t_counts, .ref q_t_scores, .ref q_t_isIn, .ref q_t_order, .int t_ranked, .int t_emptySide, .ref q_t_row, .ref q_t_listing, .int t_listingLength, .long t_hash])), (q_t_text, .inl (cy 0, 120, .inl t_text))]) cx dX6_readWeight_67 0 rfl rfl rfl (Nat.le_of_ble_eq_true rfl) rfl ?_
      refine v_iload cx dX6_readWeight_70 0 rfl ?_
      refine v_if_ne (tgt := 83) (P1 := False) (P2 := True) cx dX6_readWeight_72 (by decide) (by decide) (fun z => z.elim) (fun _ => ?_)
      refine v_iload_n cx dX6_readWeight_75 rfl 1 rfl ?_
      refine v_if_ne (tgt := 83) cx dX6_readWeight_76 (by decide) h (fun h => ?_) (fun h => ?_)
      · refine v_iconst (v := 0) cx dX6_readWeight_83 (by decide) ?_
        exact v_ireturn cx rfl dX6_readWeight_84 ⟨_, _, _, rfl, rfl, h⟩
      · refine v_iconst (v := 1) cx dX6_readWeight_79 (by decide) ?_
        refine v_goto (tgt := 84) cx dX6_readWeight_80 (by decide) ?_
        exact v_ireturn cx rfl dX6_readWeight_84 ⟨_, _, _, rfl, rfl, h⟩
    · refine v_iconst (v := 1) cx dX6_readWeight_42 (by decide) ?_
      refine v_goto (tgt := 47) cx dX6_readWeight_43 (by decide) ?_
      refine v_istore (lv' := [(4, .int 1), (3, .int r_7), (2, .int u_2), (1, .int r_1), (0, .ref q_t)]) cx dX6_readWeight_47 (by decide) rfl ?_
      refine v_aload_n cx dX6_readWeight_49 rfl 4 rfl ?_
      refine v_iload cx dX6_readWeight_50 0 rfl ?_
      refine v_if_eq (tgt := 63) (P1 := False) (P2 := True) cx dX6_readWeight_52 (by decide) (by decide) (fun z => z.elim) (fun _ => ?_)
      refine v_iload_n cx dX6_readWeight_55 rfl 1 rfl ?_
      refine v_if_ne (tgt := 63) cx dX6_readWeight_56 (by decide) h (fun h => ?_) (fun h => ?_)
      · refine v_aload_n cx dX6_readWeight_63 rfl 4 rfl ?_
        refine g_X6_66 cx dX6_readWeight_64 0 rfl rfl ?_
        refine p_X6_66 (ws' := [(q_t, .inr (6, [.ref q_t_m, .ref q_t_saved, .int t_savedCount, .ref q_t_text, .int t_textLength, .int t_code, .int u_4, .ref q_t_read, .int u_5, .ref q_t_counts, .ref q_t_scores, .ref q_t_isIn, .ref q_t_order, .int t_ranked, .int t_emptySide, .ref q_t_row, .ref q_t_listing, .int t_listingLength, .long t_hash])), (q_t_text, .inl (cy 0, 120, .inl t_text))]) cx dX6_readWeight_67 0 rfl rfl rfl (Nat.le_of_ble_eq_true rfl) rfl ?_
        refine v_iload cx dX6_readWeight_70 0 rfl ?_
        refine v_if_ne (tgt := 83) (P1 := True) (P2 := False) cx dX6_readWeight_72 (by decide) (by decide) (fun _ => ?_) (fun z => z.elim)
        refine v_iconst (v := 0) cx dX6_readWeight_83 (by decide) ?_
        exact v_ireturn cx rfl dX6_readWeight_84 ⟨_, _, _, rfl, rfl, h⟩
      · refine v_iload_n cx dX6_readWeight_59 rfl 2 rfl ?_
        refine v_goto (tgt := 67) cx dX6_readWeight_60 (by decide) ?_
        refine p_X6_66 (ws' := [(q_t, .inr (6, [.ref q_t_m, .ref q_t_saved, .int t_savedCount, .ref q_t_text, .int t_textLength, .int t_code, .int u_2, .ref q_t_read, .int u_5, .ref q_t_counts, .ref q_t_scores, .ref q_t_isIn, .ref q_t_order, .int t_ranked, .int t_emptySide, .ref q_t_row, .ref q_t_listing, .int t_listingLength, .long t_hash])), (q_t_text, .inl (cy 0, 120, .inl t_text))]) cx dX6_readWeight_67 0 rfl rfl rfl (Nat.le_of_ble_eq_true rfl) rfl ?_
        refine v_iload cx dX6_readWeight_70 0 rfl ?_
        refine v_if_ne (tgt := 83) (P1 := True) (P2 := False) cx dX6_readWeight_72 (by decide) (by decide) (fun _ => ?_) (fun z => z.elim)
        refine v_iconst (v := 0) cx dX6_readWeight_83 (by decide) ?_
        exact v_ireturn cx rfl dX6_readWeight_84 ⟨_, _, _, rfl, rfl, h⟩
  · refine v_iconst (v := 0) cx dX6_readWeight_18 (by decide) ?_
    exact v_ireturn cx rfl dX6_readWeight_19 ⟨_, _, _, rfl, rfl, h⟩
abbrev rm_X6_readEntry : Room := { frames := 4, cells := 0, slots := 0, locals := 89 }
set_option maxHeartbeats 4000000 in
set_option maxRecDepth 100000 in
theorem c_X6_readEntry (l : Launch) (g : gT) (D : va_G) (cy : Nat → ClassId) (q_t q_t_m q_t_saved q_t_text q_t_read q_t_counts q_t_scores q_t_isIn q_t_order q_t_row q_t_listing : Nat) {t_savedCount : Int32} {t_textLength : Int32} {t_code : Int32} {t_at : Int32} {t_number : Int32} {t_ranked : Int32} {t_emptySide : Int32} {t_listingLength : Int32} {t_hash : Int64} {t_text : Nat → Int32} {t_read : Nat → Int32} {x1 : Int32} {x2 : Int32} {N : Nat} {Q : Int32 → Int32 → Int32 → (Nat → Int32) → Prop} (h : p_X6_readEntry N t_savedCount t_textLength t_code t_at t_number t_ranked t_emptySide t_listingLength t_hash t_text t_read x1 x2 Q) : UC l yX6_readEntry cX6_readEntry 4 (some .boolean) rm_X6_readEntry g D cy [.ref q_t, .int x1, .int x2] [(q_t, .inr (6, [.ref q_t_m, .ref q_t_saved, .int t_savedCount, .ref q_t_text, .int t_textLength, .int t_code, .int t_at, .ref q_t_read, .int t_number, .ref q_t_counts, .ref q_t_scores, .ref q_t_isIn, .ref q_t_order, .int t_ranked, .int t_emptySide, .ref q_t_row, .ref q_t_listing, .int t_listingLength, .long t_hash])), (q_t_text, .inl (cy 0, 120, .inl t_text)), (q_t_read, .inl (cy 0, 40, .inl t_read))] (fun v w => ∃ (r : Int32) (t_at' : Int32) (t_number' : Int32) (t_read' : Nat → Int32), v = some (.int r) ∧ w = [(q_t, .inr (6, [.ref q_t_m, .ref q_t_saved, .int t_savedCount, .ref q_t_text, .int t_textLength, .int t_code, .int t_at', .ref q_t_read, .int t_number', .ref q_t_counts, .ref q_t_scores, .ref q_t_isIn, .ref q_t_order, .int t_ranked, .int t_emptySide, .ref q_t_row, .ref q_t_listing, .int t_listingLength, .long t_hash])), (q_t_text, .inl (cy 0, 120, .inl t_text)), (q_t_read, .inl (cy 0, 40, .inl t_read'))] ∧ Q r t_at' t_number' t_read') := by
  refine UC_of (by decide +kernel) (Nat.le_of_ble_eq_true rfl) [(0, .ref q_t), (1, .int x1), (2, .int x2)] rfl (fun p e s m args below meth c A cx => ?_)
  unfold p_X6_readEntry at h
  refine v_iload_n cx dX6_readEntry_0 rfl 2 rfl ?_
  refine v_bipush (v := 10) cx dX6_readEntry_1 (by decide) ?_
  refine v_icmp_eq (tgt := 17) cx dX6_readEntry_3 (by decide) h (fun h => ?_) (fun h => ?_)
  · refine v_iconst (v := 0) cx dX6_readEntry_17 (by decide) ?_
    exact v_ireturn cx rfl dX6_readEntry_18 ⟨_, _, _, _, rfl, rfl, h⟩
  · refine v_aload_n cx dX6_readEntry_6 rfl 0 rfl ?_
    refine v_iload_n cx dX6_readEntry_7 rfl 1 rfl ?_
    refine v_iconst (v := 4) cx dX6_readEntry_8 (by decide) ?_
    refine v_iload_n cx dX6_readEntry_9 rfl 2 rfl ?_
    refine v_imul cx dX6_readEntry_10 ?_
    refine v_callV (As := [.int x1, .int (4 * x2)]) cx (c_X6_readRange l g D cy q_t q_t_m q_t_saved q_t_text q_t_read q_t_counts q_t_scores q_t_isIn q_t_order q_t_row q_t_listing h) k_X6_96 (by decide) (by decide) rfl rfl (Nat.le_of_ble_eq_true rfl) dX6_readEntry_11 [0, 1, 2] [] (by decide) rfl rfl rfl (q0 := 0) rfl rfl (fun v9 w9 hp => ?_)
    obtain ⟨r_1, u_2, u_3, rfl, rfl, h⟩ := hp
    refine v_afterJ (ws' := [(q_t, .inr (6, [.ref q_t_m, .ref q_t_saved, .int t_savedCount, .ref q_t_text, .int t_textLength, .int t_code, .int u_2, .ref q_t_read, .int t_number, .ref q_t_counts, .ref q_t_scores, .ref q_t_isIn, .ref q_t_order, .int t_ranked, .int t_emptySide, .ref q_t_row, .ref q_t_listing, .int t_listingLength, .long t_hash])), (q_t_text, .inl (cy 0, 120, .inl t_text)), (q_t_read, .inl (cy 0, 40, .inl u_3))]) (st' := [.int r_1]) (ce := 0) (sl := 0) 3 [3, 4, 5] (by decide +kernel) (by decide +kernel) rfl rfl ⟨rfl, rfl⟩ ?_
    refine v_if_ne (tgt := 19) cx dX6_readEntry_14 (by decide) h (fun h => ?_) (fun h => ?_)
    · refine v_aload_n cx dX6_readEntry_19 rfl 0 rfl ?_
      refine v_callV (As := []) cx (c_X6_skips l g D cy q_t q_t_m q_t_saved q_t_text q_t_read q_t_counts q_t_scores q_t_isIn q_t_order q_t_row q_t_listing h) k_X6_89 (by decide) (by decide) rfl rfl (Nat.le_of_ble_eq_true rfl) dX6_readEntry_20 [0, 1] [2] (by decide) rfl rfl rfl (q0 := 0) rfl rfl (fun v9 w9 hp => ?_)
      obtain ⟨r_4, u_5, rfl, rfl, h⟩ := hp
      refine v_afterJ (ws' := [(q_t, .inr (6, [.ref q_t_m, .ref q_t_saved, .int t_savedCount, .ref q_t_text, .int t_textLength, .int t_code, .int u_5, .ref q_t_read, .int t_number, .ref q_t_counts, .ref q_t_scores, .ref q_t_isIn, .ref q_t_order, .int t_ranked, .int t_emptySide, .ref q_t_row, .ref q_t_listing, .int t_listingLength, .long t_hash])), (q_t_text, .inl (cy 0, 120, .inl t_text)), (q_t_read, .inl (cy 0, 40, .inl u_3))]) (st' := [.int r_4]) (ce := 0) (sl := 0) 3 [3, 4, 2] (by decide +kernel) (by decide +kernel) rfl rfl ⟨rfl, rfl⟩ ?_
      refine v_istore_n (lv' := [(3, .int r_4), (0, .ref q_t), (1, .int x1), (2, .int x2)]) cx dX6_readEntry_23 rfl (by decide) rfl ?_
      refine v_aload_n cx dX6_readEntry_24 rfl 1 rfl ?_
      refine v_sipush (v := 1000) cx dX6_readEntry_25 (by decide) ?_
      refine p_X6_73 (ws' := [(q_t, .inr (6, [.ref q_t_m, .ref q_t_saved, .int t_savedCount, .ref q_t_text, .int t_textLength, .int t_code, .int u_5, .ref q_t_read, .int 1000, .ref q_t_counts, .ref q_t_scores, .ref q_t_isIn, .ref q_t_order, .int t_ranked, .int t_emptySide, .ref q_t_row, .ref q_t_listing, .int t_listingLength, .long t_hash])), (q_t_text, .inl (cy 0, 120, .inl t_text)), (q_t_read, .inl (cy 0, 40, .inl u_3))]) cx dX6_readEntry_28 0 rfl rfl rfl (Nat.le_of_ble_eq_true rfl) rfl ?_
      refine v_aload_n cx dX6_readEntry_31 rfl 1 rfl ?_
      refine v_bipush (v := 59) cx dX6_readEntry_32 (by decide) ?_
      refine v_callV (As := [.int 59]) cx (c_X6_takes l g D cy q_t q_t_m q_t_saved q_t_text q_t_read q_t_counts q_t_scores q_t_isIn q_t_order q_t_row q_t_listing h) k_X6_80 (by decide) (by decide) rfl rfl (Nat.le_of_ble_eq_true rfl) dX6_readEntry_34 [0, 1] [2] (by decide) rfl rfl rfl (q0 := 0) rfl rfl (fun v9 w9 hp => ?_)
      obtain ⟨r_6, u_7, rfl, rfl, h⟩ := hp
      refine v_afterJ (ws' := [(q_t, .inr (6, [.ref q_t_m, .ref q_t_saved, .int t_savedCount, .ref q_t_text, .int t_textLength, .int t_code, .int u_7, .ref q_t_read, .int 1000, .ref q_t_counts, .ref q_t_scores, .ref q_t_isIn, .ref q_t_order, .int t_ranked, .int t_emptySide, .ref q_t_row, .ref q_t_listing, .int t_listingLength, .long t_hash])), (q_t_text, .inl (cy 0, 120, .inl t_text)), (q_t_read, .inl (cy 0, 40, .inl u_3))]) (st' := [.int r_6]) (ce := 0) (sl := 0) 3 [3, 4, 2] (by decide +kernel) (by decide +kernel) rfl rfl ⟨rfl, rfl⟩ ?_
      refine v_if_eq (tgt := 49) cx dX6_readEntry_37 (by decide) h (fun h => ?_) (fun h => ?_)
      · refine v_aload_n cx dX6_readEntry_49 rfl 1 rfl ?_
        refine g_X6_19 cx dX6_readEntry_50 0 rfl rfl ?_
        refine v_iconst (v := 4) cx dX6_readEntry_53 (by decide) ?_
        refine v_iload_n cx dX6_readEntry_54 rfl 3 rfl ?_
        refine v_imul cx dX6_readEntry_55 ?_
        refine v_iconst (v := 3) cx dX6_readEntry_56 (by decide) ?_
        refine v_iadd cx dX6_readEntry_57 ?_
        refine v_aload_n cx dX6_readEntry_58 rfl 1 rfl ?_
        refine g_X6_73 cx dX6_readEntry_59 0 rfl rfl ?_
        refine v_iast (ws' := [(q_t, .inr (6, [.ref q_t_m, .ref q_t_saved, .int t_savedCount, .ref q_t_text, .int t_textLength, .int t_code, .int u_7, .ref q_t_read, .int 1000, .ref q_t_counts, .ref q_t_scores, .ref q_t_isIn, .ref q_t_order, .int t_ranked, .int t_emptySide, .ref q_t_row, .ref q_t_listing, .int t_listingLength, .long t_hash])), (q_t_text, .inl (cy 0, 120, .inl t_text)), (q_t_read, .inl (cy 0, 40, .inl (upd u_3 (((4 * x2) + 3).toNatClampNeg) 1000)))]) cx dX6_readEntry_62 2 rfl h rfl (fun h => ?_)
        refine v_aload_n cx dX6_readEntry_63 rfl 1 rfl ?_
        refine v_callV (As := []) cx (c_X6_skips l g D cy q_t q_t_m q_t_saved q_t_text q_t_read q_t_counts q_t_scores q_t_isIn q_t_order q_t_row q_t_listing h) k_X6_89 (by decide) (by decide) rfl rfl (Nat.le_of_ble_eq_true rfl) dX6_readEntry_64 [0, 1] [2] (by decide) rfl rfl rfl (q0 := 0) rfl rfl (fun v9 w9 hp => ?_)
        obtain ⟨r_8, u_9, rfl, rfl, h⟩ := hp
        refine v_afterJ (ws' := [(q_t, .inr (6, [.ref q_t_m, .ref q_t_saved, .int t_savedCount, .ref q_t_text, .int t_textLength, .int t_code, .int u_9, .ref q_t_read, .int 1000, .ref q_t_counts, .ref q_t_scores, .ref q_t_isIn, .ref q_t_order, .int t_ranked, .int t_emptySide, .ref q_t_row, .ref q_t_listing, .int t_listingLength, .long t_hash])), (q_t_text, .inl (cy 0, 120, .inl t_text)), (q_t_read, .inl (cy 0, 40, .inl (upd u_3 (((4 * x2) + 3).toNatClampNeg) 1000)))]) (st' := [.int r_8]) (ce := 0) (sl := 0) 3 [3, 4, 2] (by decide +kernel) (by decide +kernel) rfl rfl ⟨rfl, rfl⟩ ?_
        refine v_istore_n (lv' := [(3, .int r_8), (0, .ref q_t), (1, .int x1), (2, .int x2)]) cx dX6_readEntry_67 rfl (by decide) rfl ?_
        refine v_iconst (v := 1) cx dX6_readEntry_68 (by decide) ?_
        exact v_ireturn cx rfl dX6_readEntry_69 ⟨_, _, _, _, rfl, rfl, h⟩
      · refine v_aload_n cx dX6_readEntry_40 rfl 1 rfl ?_
        refine v_callV (As := []) cx (c_X6_readWeight l g D cy q_t q_t_m q_t_saved q_t_text q_t_read q_t_counts q_t_scores q_t_isIn q_t_order q_t_row q_t_listing h) k_X6_99 (by decide) (by decide) rfl rfl (Nat.le_of_ble_eq_true rfl) dX6_readEntry_41 [0, 1] [2] (by decide) rfl rfl rfl (q0 := 0) rfl rfl (fun v9 w9 hp => ?_)
        obtain ⟨r_10, u_11, u_12, rfl, rfl, h⟩ := hp
        refine v_afterJ (ws' := [(q_t, .inr (6, [.ref q_t_m, .ref q_t_saved, .int t_savedCount, .ref q_t_text, .int t_textLength, .int t_code, .int u_11, .ref q_t_read, .int u_12, .ref q_t_counts, .ref q_t_scores, .ref q_t_isIn, .ref q_t_order, .int t_ranked, .int t_emptySide, .ref q_t_row, .ref q_t_listing, .int t_listingLength, .long t_hash])), (q_t_text, .inl (cy 0, 120, .inl t_text)), (q_t_read, .inl (cy 0, 40, .inl u_3))]) (st' := [.int r_10]) (ce := 0) (sl := 0) 3 [3, 4, 2] (by decide +kernel) (by decide +kernel) rfl rfl ⟨rfl, rfl⟩ ?_
        refine v_if_ne (tgt := 49) cx dX6_readEntry_44 (by decide) h (fun h => ?_) (fun h => ?_)
        · refine v_aload_n cx dX6_readEntry_49 rfl 1 rfl ?_
          refine g_X6_19 cx dX6_readEntry_50 0 rfl rfl ?_
          refine v_iconst (v := 4) cx dX6_readEntry_53 (by decide) ?_
          refine v_iload_n cx dX6_readEntry_54 rfl 3 rfl ?_
          refine v_imul cx dX6_readEntry_55 ?_
          refine v_iconst (v := 3) cx dX6_readEntry_56 (by decide) ?_
          refine v_iadd cx dX6_readEntry_57 ?_
          refine v_aload_n cx dX6_readEntry_58 rfl 1 rfl ?_
          refine g_X6_73 cx dX6_readEntry_59 0 rfl rfl ?_
          refine v_iast (ws' := [(q_t, .inr (6, [.ref q_t_m, .ref q_t_saved, .int t_savedCount, .ref q_t_text, .int t_textLength, .int t_code, .int u_11, .ref q_t_read, .int u_12, .ref q_t_counts, .ref q_t_scores, .ref q_t_isIn, .ref q_t_order, .int t_ranked, .int t_emptySide, .ref q_t_row, .ref q_t_listing, .int t_listingLength, .long t_hash])), (q_t_text, .inl (cy 0, 120, .inl t_text)), (q_t_read, .inl (cy 0, 40, .inl (upd u_3 (((4 * x2) + 3).toNatClampNeg) u_12)))]) cx dX6_readEntry_62 2 rfl h rfl (fun h => ?_)
          refine v_aload_n cx dX6_readEntry_63 rfl 1 rfl ?_
          refine v_callV (As := []) cx (c_X6_skips l g D cy q_t q_t_m q_t_saved q_t_text q_t_read q_t_counts q_t_scores q_t_isIn q_t_order q_t_row q_t_listing h) k_X6_89 (by decide) (by decide) rfl rfl (Nat.le_of_ble_eq_true rfl) dX6_readEntry_64 [0, 1] [2] (by decide) rfl rfl rfl (q0 := 0) rfl rfl (fun v9 w9 hp => ?_)
          obtain ⟨r_13, u_14, rfl, rfl, h⟩ := hp
          refine v_afterJ (ws' := [(q_t, .inr (6, [.ref q_t_m, .ref q_t_saved, .int t_savedCount, .ref q_t_text, .int t_textLength, .int t_code, .int u_14, .ref q_t_read, .int u_12, .ref q_t_counts, .ref q_t_scores, .ref q_t_isIn, .ref q_t_order, .int t_ranked, .int t_emptySide, .ref q_t_row, .ref q_t_listing, .int t_listingLength, .long t_hash])), (q_t_text, .inl (cy 0, 120, .inl t_text)), (q_t_read, .inl (cy 0, 40, .inl (upd u_3 (((4 * x2) + 3).toNatClampNeg) u_12)))]) (st' := [.int r_13]) (ce := 0) (sl := 0) 3 [3, 4, 2] (by decide +kernel) (by decide +kernel) rfl rfl ⟨rfl, rfl⟩ ?_
          refine v_istore_n (lv' := [(3, .int r_13), (0, .ref q_t), (1, .int x1), (2, .int x2)]) cx dX6_readEntry_67 rfl (by decide) rfl ?_
          refine v_iconst (v := 1) cx dX6_readEntry_68 (by decide) ?_
          exact v_ireturn cx rfl dX6_readEntry_69 ⟨_, _, _, _, rfl, rfl, h⟩
        · refine v_iconst (v := 0) cx dX6_readEntry_47 (by decide) ?_
          exact v_ireturn cx rfl dX6_readEntry_48 ⟨_, _, _, _, rfl, rfl, h⟩
    · refine v_iconst (v := 0) cx dX6_readEntry_17 (by decide) ?_
      exact v_ireturn cx rfl dX6_readEntry_18 ⟨_, _, _, _, rfl, rfl, h⟩
abbrev rm_X6_readList : Room := { frames := 5, cells := 0, slots := 0, locals := 112 }
set_option maxHeartbeats 4000000 in
set_option maxRecDepth 100000 in
theorem w_X6_readList_2 {p : Program} {l : Launch} {e : Env} {s : State} {m : MethodId} {args : Array Value} {below : List Frame} {meth : Method} {c : Code} {Q9 : State → Prop} {mn : String} {Ts : List Cond} {D : va_G} {cy : Nat → ClassId} {g : gT} {A : Nat → Prop} (cx : vC p s m args meth c cX6_readList 5 (some .int) RX6 mn Ts D cy g A) (q_t q_t_m q_t_saved q_t_text q_t_read q_t_counts q_t_scores q_t_isIn q_t_order q_t_row q_t_listing : Nat) {x1 : Int32} {t_savedCount : Int32} {t_textLength : Int32} {t_code : Int32} {t_at : Int32} {t_number : Int32} {t_ranked : Int32} {t_emptySide : Int32} {t_listingLength : Int32} {t_hash : Int64} {t_text : Nat → Int32} {N : Nat} {K21 : Int32 → (Nat → Int32) → Prop} (hK21 : ∀ (x2 : Int32) (t_read : Nat → Int32), K21 x2 t_read → vV p l e rm_X6_readList s m args below meth c Q9 5 D A 0 0 [(q_t, .inr (6, [.ref q_t_m, .ref q_t_saved, .int t_savedCount, .ref q_t_text, .int t_textLength, .int t_code, .int t_at, .ref q_t_read, .int t_number, .ref q_t_counts, .ref q_t_scores, .ref q_t_isIn, .ref q_t_order, .int t_ranked, .int t_emptySide, .ref q_t_row, .ref q_t_listing, .int t_listingLength, .long t_hash])), (q_t_read, .inl (cy 0, 40, .inl t_read)), (q_t_text, .inl (cy 0, 120, .inl t_text))] 21 [(0, .ref q_t), (1, .int x1), (2, .int x2)] []) : ∀ (n : Nat) (x2 : Int32) (t_read : Nat → Int32), p_X6_readList_2 N x1 t_savedCount t_textLength t_code t_at t_number t_ranked t_emptySide t_listingLength t_hash t_text K21 n x2 t_read → vV p l e rm_X6_readList s m args below meth c Q9 5 D A 0 0 [(q_t, .inr (6, [.ref q_t_m, .ref q_t_saved, .int t_savedCount, .ref q_t_text, .int t_textLength, .int t_code, .int t_at, .ref q_t_read, .int t_number, .ref q_t_counts, .ref q_t_scores, .ref q_t_isIn, .ref q_t_order, .int t_ranked, .int t_emptySide, .ref q_t_row, .ref q_t_listing, .int t_listingLength, .long t_hash])), (q_t_read, .inl (cy 0, 40, .inl t_read)), (q_t_text, .inl (cy 0, 120, .inl t_text))] 2 [(0, .ref q_t), (1, .int x1), (2, .int x2)] [] := by
  intro n
  induction n with
  | zero => intro x2 t_read h; exact False.elim h
  | succ n ih =>
    intro x2 t_read h
    unfold p_X6_readList_2 at h
    refine v_iload_n cx dX6_readList_2 rfl 2 rfl ?_
    refine v_bipush (v := 40) cx dX6_readList_3 (by decide) ?_
    refine v_icmp_ge (tgt := 21) cx dX6_readList_5 (by decide) h (fun h => ?_) (fun h => ?_)
    · refine v_lv (lv' := [(0, .ref q_t), (1, .int x1), (2, .int x2)]) [0, 1, 2] rfl ?_
      exact hK21 _ _ h
    · refine v_aload_n cx dX6_readList_8 rfl 0 rfl ?_
      refine g_X6_19 cx dX6_readList_9 0 rfl rfl ?_
      refine v_iload_n cx dX6_readList_12 rfl 2 rfl ?_
      refine v_iconst (v := 0) cx dX6_readList_13 (by decide) ?_
      refine v_iast (ws' := [(q_t, .inr (6, [.ref q_t_m, .ref q_t_saved, .int t_savedCount, .ref q_t_text, .int t_textLength, .int t_code, .int t_at, .ref q_t_read, .int t_number, .ref q_t_counts, .ref q_t_scores, .ref q_t_isIn, .ref q_t_order, .int t_ranked, .int t_emptySide, .ref q_t_row, .ref q_t_listing, .int t_listingLength, .long t_hash])), (q_t_read, .inl (cy 0, 40, .inl (upd t_read x2.toNatClampNeg 0))), (q_t_text, .inl (cy 0, 120, .inl t_text))]) cx dX6_readList_14 1 rfl h rfl (fun h => ?_)
      refine v_iinc (v := x2 + 1) (k0 := 2) (lv' := [(2, .int (x2 + 1)), (0, .ref q_t), (1, .int x1)]) cx dX6_readList_15 rfl rfl (by decide) rfl ?_
      refine v_goto (tgt := 2) cx dX6_readList_18 (by decide) ?_
      refine v_lv (lv' := [(0, .ref q_t), (1, .int x1), (2, .int (x2 + 1))]) [1, 2, 0] rfl ?_
      exact ih _ _ h
set_option maxHeartbeats 4000000 in
set_option maxRecDepth 100000 in
theorem w_X6_readList_47 {p : Program} {l : Launch} {e : Env} {s : State} {m : MethodId} {args : Array Value} {below : List Frame} {meth : Method} {c : Code} {Q9 : State → Prop} {mn : String} {Ts : List Cond} {D : va_G} {cy : Nat → ClassId} {g : gT} {A : Nat → Prop} (cx : vC p s m args meth c cX6_readList 5 (some .int) RX6 mn Ts D cy g A) (q_t q_t_m q_t_saved q_t_text q_t_read q_t_counts q_t_scores q_t_isIn q_t_order q_t_row q_t_listing : Nat) {x1 : Int32} {t_savedCount : Int32} {t_textLength : Int32} {t_code : Int32} {t_ranked : Int32} {t_emptySide : Int32} {t_listingLength : Int32} {t_hash : Int64} {t_text : Nat → Int32} {N : Nat} {K61 : Int32 → Int32 → Int32 → Int32 → Int32 → (Nat → Int32) → Prop} {K95 : Int32 → Int32 → Int32 → Int32 → Int32 → (Nat → Int32) → Prop} (hK61 : ∀ (x2 : Int32) (x3 : Int32) (x4 : Int32) (t_at : Int32) (t_number : Int32) (t_read : Nat → Int32), K61 x2 x3 x4 t_at t_number t_read → vV p l e rm_X6_readList s m args below meth c Q9 5 D A 0 0 [(q_t, .inr (6, [.ref q_t_m, .ref q_t_saved, .int t_savedCount, .ref q_t_text, .int t_textLength, .int t_code, .int t_at, .ref q_t_read, .int t_number, .ref q_t_counts, .ref q_t_scores, .ref q_t_isIn, .ref q_t_order, .int t_ranked, .int t_emptySide, .ref q_t_row, .ref q_t_listing, .int t_listingLength, .long t_hash])), (q_t_read, .inl (cy 0, 40, .inl t_read)), (q_t_text, .inl (cy 0, 120, .inl t_text))] 61 [(0, .ref q_t), (1, .int x1), (2, .int x2), (3, .int x3), (4, .int x4)] []) (hK95 : ∀ (x2 : Int32) (x3 : Int32) (x4 : Int32) (t_at : Int32) (t_number : Int32) (t_read : Nat → Int32), K95 x2 x3 x4 t_at t_number t_read → vV p l e rm_X6_readList s m args below meth c Q9 5 D A 0 0 [(q_t, .inr (6, [.ref q_t_m, .ref q_t_saved, .int t_savedCount, .ref q_t_text, .int t_textLength, .int t_code, .int t_at, .ref q_t_read, .int t_number, .ref q_t_counts, .ref q_t_scores, .ref q_t_isIn, .ref q_t_order, .int t_ranked, .int t_emptySide, .ref q_t_row, .ref q_t_listing, .int t_listingLength, .long t_hash])), (q_t_read, .inl (cy 0, 40, .inl t_read)), (q_t_text, .inl (cy 0, 120, .inl t_text))] 95 [(0, .ref q_t), (1, .int x1), (2, .int x2), (3, .int x3), (4, .int x4)] []) : ∀ (n : Nat) (x2 : Int32) (x3 : Int32) (x4 : Int32) (t_at : Int32) (t_number : Int32) (t_read : Nat → Int32), p_X6_readList_47 N x1 t_savedCount t_textLength t_code t_ranked t_emptySide t_listingLength t_hash t_text K61 K95 n x2 x3 x4 t_at t_number t_read → vV p l e rm_X6_readList s m args below meth c Q9 5 D A 0 0 [(q_t, .inr (6, [.ref q_t_m, .ref q_t_saved, .int t_savedCount, .ref q_t_text, .int t_textLength, .int t_code, .int t_at, .ref q_t_read, .int t_number, .ref q_t_counts, .ref q_t_scores, .ref q_t_isIn, .ref q_t_order, .int t_ranked, .int t_emptySide, .ref q_t_row, .ref q_t_listing, .int t_listingLength, .long t_hash])), (q_t_read, .inl (cy 0, 40, .inl t_read)), (q_t_text, .inl (cy 0, 120, .inl t_text))] 47 [(0, .ref q_t), (1, .int x1), (2, .int x2), (3, .int x3), (4, .int x4)] [] := by
  intro n
  induction n with
  | zero => intro x2 x3 x4 t_at t_number t_read h; exact False.elim h
  | succ n ih =>
    intro x2 x3 x4 t_at t_number t_read h
    unfold p_X6_readList_47 at h
    refine v_iload cx dX6_readList_47 4 rfl ?_
    refine v_if_eq (tgt := 95) cx dX6_readList_49 (by decide) h (fun h => ?_) (fun h => ?_)
    · refine v_lv (lv' := [(0, .ref q_t), (1, .int x1), (2, .int x2), (3, .int x3), (4, .int x4)]) [0, 1, 2, 3, 4] rfl ?_
      exact hK95 _ _ _ _ _ _ h
    · refine v_aload_n cx dX6_readList_52 rfl 0 rfl ?_
      refine v_iload_n cx dX6_readList_53 rfl 1 rfl ?_
      refine v_iload_n cx dX6_readList_54 rfl 3 rfl ?_
      refine v_callV (As := [.int x1, .int x3]) cx (c_X6_readEntry l g D cy q_t q_t_m q_t_saved q_t_text q_t_read q_t_counts q_t_scores q_t_isIn q_t_order q_t_row q_t_listing h) k_X6_105 (by decide) (by decide) rfl rfl (Nat.le_of_ble_eq_true rfl) dX6_readList_55 [0, 2, 1] [] (by decide) rfl rfl rfl (q0 := 0) rfl rfl (fun v9 w9 hp => ?_)
      refine Exists.elim hp fun r_6 hp => Exists.elim hp fun u_7 hp => Exists.elim hp fun u_8 hp => Exists.elim hp fun u_9 hp => ?_
      obtain ⟨rfl, rfl, h⟩ := hp
      refine v_afterJ (ws' := [(q_t, .inr (6, [.ref q_t_m, .ref q_t_saved, .int t_savedCount, .ref q_t_text, .int t_textLength, .int t_code, .int u_7, .ref q_t_read, .int u_8, .ref q_t_counts, .ref q_t_scores, .ref q_t_isIn, .ref q_t_order, .int t_ranked, .int t_emptySide, .ref q_t_row, .ref q_t_listing, .int t_listingLength, .long t_hash])), (q_t_read, .inl (cy 0, 40, .inl u_9)), (q_t_text, .inl (cy 0, 120, .inl t_text))]) (st' := [.int r_6]) (ce := 0) (sl := 0) 3 [3, 5, 4] (by decide +kernel) (by decide +kernel) rfl rfl ⟨rfl, rfl⟩ ?_
      refine v_if_ne (tgt := 63) cx dX6_readList_58 (by decide) h (fun h => ?_) (fun h => ?_)
      · refine v_iinc (v := x3 + 1) (k0 := 3) (lv' := [(3, .int (x3 + 1)), (0, .ref q_t), (1, .int x1), (2, .int x2), (4, .int x4)]) cx dX6_readList_63 rfl rfl (by decide) rfl ?_
        refine v_aload_n cx dX6_readList_66 rfl 1 rfl ?_
        refine v_bipush (v := 44) cx dX6_readList_67 (by decide) ?_
        refine v_callV (As := [.int 44]) cx (c_X6_takes l g D cy q_t q_t_m q_t_saved q_t_text q_t_read q_t_counts q_t_scores q_t_isIn q_t_order q_t_row q_t_listing h) k_X6_80 (by decide) (by decide) rfl rfl (Nat.le_of_ble_eq_true rfl) dX6_readList_69 [0, 2] [1] (by decide) rfl rfl rfl (q0 := 0) rfl rfl (fun v9 w9 hp => ?_)
        obtain ⟨r_10, u_11, rfl, rfl, h⟩ := hp
        refine v_afterJ (ws' := [(q_t, .inr (6, [.ref q_t_m, .ref q_t_saved, .int t_savedCount, .ref q_t_text, .int t_textLength, .int t_code, .int u_11, .ref q_t_read, .int u_8, .ref q_t_counts, .ref q_t_scores, .ref q_t_isIn, .ref q_t_order, .int t_ranked, .int t_emptySide, .ref q_t_row, .ref q_t_listing, .int t_listingLength, .long t_hash])), (q_t_read, .inl (cy 0, 40, .inl u_9)), (q_t_text, .inl (cy 0, 120, .inl t_text))]) (st' := [.int r_10]) (ce := 0) (sl := 0) 3 [3, 1, 4] (by decide +kernel) (by decide +kernel) rfl rfl ⟨rfl, rfl⟩ ?_
        refine v_istore (lv' := [(4, .int r_10), (3, .int (x3 + 1)), (0, .ref q_t), (1, .int x1), (2, .int x2)]) cx dX6_readList_72 (by decide) rfl ?_
        refine v_iload cx dX6_readList_74 0 rfl ?_
        refine v_if_eq (tgt := 90) cx dX6_readList_76 (by decide) h (fun h => ?_) (fun h => ?_)
        · refine v_iconst (v := 0) cx dX6_readList_90 (by decide) ?_
          refine v_istore_n (lv' := [(2, .int 0), (4, .int r_10), (3, .int (x3 + 1)), (0, .ref q_t), (1, .int x1)]) cx dX6_readList_91 rfl (by decide) rfl ?_
          refine v_goto (tgt := 47) cx dX6_readList_92 (by decide) ?_
          refine v_lv (lv' := [(0, .ref q_t), (1, .int x1), (2, .int 0), (3, .int (x3 + 1)), (4, .int r_10)]) [3, 4, 0, 2, 1] rfl ?_
          exact ih _ _ _ _ _ _ h
        · refine v_aload_n cx dX6_readList_79 rfl 2 rfl ?_
          refine v_callV (As := []) cx (c_X6_skips l g D cy q_t q_t_m q_t_saved q_t_text q_t_read q_t_counts q_t_scores q_t_isIn q_t_order q_t_row q_t_listing h) k_X6_89 (by decide) (by decide) rfl rfl (Nat.le_of_ble_eq_true rfl) dX6_readList_80 [0, 2] [1] (by decide) rfl rfl rfl (q0 := 0) rfl rfl (fun v9 w9 hp => ?_)
          obtain ⟨r_12, u_13, rfl, rfl, h⟩ := hp
          refine v_afterJ (ws' := [(q_t, .inr (6, [.ref q_t_m, .ref q_t_saved, .int t_savedCount, .ref q_t_text, .int t_textLength, .int t_code, .int u_13, .ref q_t_read, .int u_8, .ref q_t_counts, .ref q_t_scores, .ref q_t_isIn, .ref q_t_order, .int t_ranked, .int t_emptySide, .ref q_t_row, .ref q_t_listing, .int t_listingLength, .long t_hash])), (q_t_read, .inl (cy 0, 40, .inl u_9)), (q_t_text, .inl (cy 0, 120, .inl t_text))]) (st' := [.int r_12]) (ce := 0) (sl := 0) 3 [3, 1, 4] (by decide +kernel) (by decide +kernel) rfl rfl ⟨rfl, rfl⟩ ?_
          refine v_if_eq (tgt := 90) cx dX6_readList_83 (by decide) h (fun h => ?_) (fun h => ?_)
          · refine v_iconst (v := 0) cx dX6_readList_90 (by decide) ?_
            refine v_istore_n (lv' := [(2, .int 0), (4, .int r_10), (3, .int (x3 + 1)), (0, .ref q_t), (1, .int x1)]) cx dX6_readList_91 rfl (by decide) rfl ?_
            refine v_goto (tgt := 47) cx dX6_readList_92 (by decide) ?_
            refine v_lv (lv' := [(0, .ref q_t), (1, .int x1), (2, .int 0), (3, .int (x3 + 1)), (4, .int r_10)]) [3, 4, 0, 2, 1] rfl ?_
            exact ih _ _ _ _ _ _ h
          · refine v_iconst (v := 1) cx dX6_readList_86 (by decide) ?_
            refine v_goto (tgt := 91) cx dX6_readList_87 (by decide) ?_
            refine v_istore_n (lv' := [(2, .int 1), (4, .int r_10), (3, .int (x3 + 1)), (0, .ref q_t), (1, .int x1)]) cx dX6_readList_91 rfl (by decide) rfl ?_
            refine v_goto (tgt := 47) cx dX6_readList_92 (by decide) ?_
            refine v_lv (lv' := [(0, .ref q_t), (1, .int x1), (2, .int 1), (3, .int (x3 + 1)), (4, .int r_10)]) [3, 4, 0, 2, 1] rfl ?_
            exact ih _ _ _ _ _ _ h
      · refine v_lv (lv' := [(0, .ref q_t), (1, .int x1), (2, .int x2), (3, .int x3), (4, .int x4)]) [0, 1, 2, 3, 4] rfl ?_
        exact hK61 _ _ _ _ _ _ h
set_option maxHeartbeats 4000000 in
set_option maxRecDepth 100000 in
theorem c_X6_readList (l : Launch) (g : gT) (D : va_G) (cy : Nat → ClassId) (q_t q_t_m q_t_saved q_t_text q_t_read q_t_counts q_t_scores q_t_isIn q_t_order q_t_row q_t_listing : Nat) {t_savedCount : Int32} {t_textLength : Int32} {t_code : Int32} {t_at : Int32} {t_number : Int32} {t_ranked : Int32} {t_emptySide : Int32} {t_listingLength : Int32} {t_hash : Int64} {t_read : Nat → Int32} {t_text : Nat → Int32} {x1 : Int32} {N : Nat} {Q : Int32 → Int32 → Int32 → (Nat → Int32) → Prop} (h : p_X6_readList N t_savedCount t_textLength t_code t_at t_number t_ranked t_emptySide t_listingLength t_hash t_read t_text x1 Q) : UC l yX6_readList cX6_readList 5 (some .int) rm_X6_readList g D cy [.ref q_t, .int x1] [(q_t, .inr (6, [.ref q_t_m, .ref q_t_saved, .int t_savedCount, .ref q_t_text, .int t_textLength, .int t_code, .int t_at, .ref q_t_read, .int t_number, .ref q_t_counts, .ref q_t_scores, .ref q_t_isIn, .ref q_t_order, .int t_ranked, .int t_emptySide, .ref q_t_row, .ref q_t_listing, .int t_listingLength, .long t_hash])), (q_t_read, .inl (cy 0, 40, .inl t_read)), (q_t_text, .inl (cy 0, 120, .inl t_text))] (fun v w => ∃ (r : Int32) (t_at' : Int32) (t_number' : Int32) (t_read' : Nat → Int32), v = some (.int r) ∧ w = [(q_t, .inr (6, [.ref q_t_m, .ref q_t_saved, .int t_savedCount, .ref q_t_text, .int t_textLength, .int t_code, .int t_at', .ref q_t_read, .int t_number', .ref q_t_counts, .ref q_t_scores, .ref q_t_isIn, .ref q_t_order, .int t_ranked, .int t_emptySide, .ref q_t_row, .ref q_t_listing, .int t_listingLength, .long t_hash])), (q_t_read, .inl (cy 0, 40, .inl t_read')), (q_t_text, .inl (cy 0, 120, .inl t_text))] ∧ Q r t_at' t_number' t_read') := by
  refine UC_of (by decide +kernel) (Nat.le_of_ble_eq_true rfl) [(0, .ref q_t), (1, .int x1)] rfl (fun p e s m args below meth c A cx => ?_)
  unfold p_X6_readList at h
  refine v_iconst (v := 0) cx dX6_readList_0 (by decide) ?_
  refine v_istore_n (lv' := [(2, .int 0), (0, .ref q_t), (1, .int x1)]) cx dX6_readList_1 rfl (by decide) rfl ?_
  refine v_lv (lv' := [(0, .ref q_t), (1, .int x1), (2, .int 0)]) [1, 2, 0] rfl ?_
  refine w_X6_readList_2 cx q_t q_t_m q_t_saved q_t_text q_t_read q_t_counts q_t_scores q_t_isIn q_t_order q_t_row q_t_listing ?_ N _ _ h
  · intro x2_1 t_read_2 h
    refine v_aload_n cx dX6_readList_21 rfl 0 rfl ?_
    refine v_iconst (v := 0) cx dX6_readList_22 (by decide) ?_
    refine p_X6_66 (ws' := [(q_t, .inr (6, [.ref q_t_m, .ref q_t_saved, .int t_savedCount, .ref q_t_text, .int t_textLength, .int t_code, .int 0, .ref q_t_read, .int t_number, .ref q_t_counts, .ref q_t_scores, .ref q_t_isIn, .ref q_t_order, .int t_ranked, .int t_emptySide, .ref q_t_row, .ref q_t_listing, .int t_listingLength, .long t_hash])), (q_t_read, .inl (cy 0, 40, .inl t_read_2)), (q_t_text, .inl (cy 0, 120, .inl t_text))]) cx dX6_readList_23 0 rfl rfl rfl (Nat.le_of_ble_eq_true rfl) rfl ?_
    refine v_aload_n cx dX6_readList_26 rfl 0 rfl ?_
    refine v_callV (As := []) cx (c_X6_skips l g D cy q_t q_t_m q_t_saved q_t_text q_t_read q_t_counts q_t_scores q_t_isIn q_t_order q_t_row q_t_listing h) k_X6_89 (by decide) (by decide) rfl rfl (Nat.le_of_ble_eq_true rfl) dX6_readList_27 [0, 2] [1] (by decide) rfl rfl rfl (q0 := 0) rfl rfl (fun v9 w9 hp => ?_)
    obtain ⟨r_3, u_4, rfl, rfl, h⟩ := hp
    refine v_afterJ (ws' := [(q_t, .inr (6, [.ref q_t_m, .ref q_t_saved, .int t_savedCount, .ref q_t_text, .int t_textLength, .int t_code, .int u_4, .ref q_t_read, .int t_number, .ref q_t_counts, .ref q_t_scores, .ref q_t_isIn, .ref q_t_order, .int t_ranked, .int t_emptySide, .ref q_t_row, .ref q_t_listing, .int t_listingLength, .long t_hash])), (q_t_read, .inl (cy 0, 40, .inl t_read_2)), (q_t_text, .inl (cy 0, 120, .inl t_text))]) (st' := [.int r_3]) (ce := 0) (sl := 0) 3 [3, 1, 4] (by decide +kernel) (by decide +kernel) rfl rfl ⟨rfl, rfl⟩ ?_
    refine v_istore_n (lv' := [(2, .int r_3), (0, .ref q_t), (1, .int x1)]) cx dX6_readList_30 rfl (by decide) rfl ?_
    refine v_iconst (v := 0) cx dX6_readList_31 (by decide) ?_
    refine v_istore_n (lv' := [(3, .int 0), (2, .int r_3), (0, .ref q_t), (1, .int x1)]) cx dX6_readList_32 rfl (by decide) rfl ?_
    refine v_aload_n cx dX6_readList_33 rfl 2 rfl ?_
    refine v_callVpi (As := []) cx (c_X6_isEnd l g D cy q_t q_t_m q_t_saved q_t_text q_t_read q_t_counts q_t_scores q_t_isIn q_t_order q_t_row q_t_listing h) k_X6_102 (by decide) ⟨rfl, rfl⟩ (by decide) rfl rfl (Nat.le_of_ble_eq_true rfl) dX6_readList_34 [0] [1, 2] (by decide) (vj_all 3 rfl (by decide +kernel)) rfl rfl rfl (q0 := 0) rfl rfl (fun r_5 h => ?_)
    refine v_if_ne (tgt := 44) cx dX6_readList_37 (by decide) h (fun h => ?_) (fun h => ?_)
    · refine v_iconst (v := 0) cx dX6_readList_44 (by decide) ?_
      refine v_istore (lv' := [(4, .int 0), (3, .int 0), (2, .int r_3), (0, .ref q_t), (1, .int x1)]) cx dX6_readList_45 (by decide) rfl ?_
      refine v_lv (lv' := [(0, .ref q_t), (1, .int x1), (2, .int r_3), (3, .int 0), (4, .int 0)]) [3, 4, 2, 1, 0] rfl ?_
      refine w_X6_readList_47 cx q_t q_t_m q_t_saved q_t_text q_t_read q_t_counts q_t_scores q_t_isIn q_t_order q_t_row q_t_listing ?_ ?_ N _ _ _ _ _ _ h
      · intro x2_14 x3_15 x4_16 t_at_17 t_number_18 t_read_19 h
        refine v_iconst (v := (-1)) cx dX6_readList_61 (by decide) ?_
        exact v_ireturn cx rfl dX6_readList_62 ⟨_, _, _, _, rfl, rfl, h⟩
      · intro x2_20 x3_21 x4_22 t_at_23 t_number_24 t_read_25 h
        refine v_aload_n cx dX6_readList_95 rfl 0 rfl ?_
        refine v_callVpi (As := []) cx (c_X6_isEnd l g D cy q_t q_t_m q_t_saved q_t_text q_t_read q_t_counts q_t_scores q_t_isIn q_t_order q_t_row q_t_listing h) k_X6_102 (by decide) ⟨rfl, rfl⟩ (by decide) rfl rfl (Nat.le_of_ble_eq_true rfl) dX6_readList_96 [0] [1, 2] (by decide) (vj_all 3 rfl (by decide +kernel)) rfl rfl rfl (q0 := 0) rfl rfl (fun r_26 h => ?_)
        refine v_if_eq (tgt := 106) cx dX6_readList_99 (by decide) h (fun h => ?_) (fun h => ?_)
        · refine v_iconst (v := (-1)) cx dX6_readList_106 (by decide) ?_
          exact v_ireturn cx rfl dX6_readList_107 ⟨_, _, _, _, rfl, rfl, h⟩
        · refine v_iload_n cx dX6_readList_102 rfl 3 rfl ?_
          refine v_goto (tgt := 107) cx dX6_readList_103 (by decide) ?_
          exact v_ireturn cx rfl dX6_readList_107 ⟨_, _, _, _, rfl, rfl, h⟩
    · refine v_iconst (v := 1) cx dX6_readList_40 (by decide) ?_
      refine v_goto (tgt := 45) cx dX6_readList_41 (by decide) ?_
      refine v_istore (lv' := [(4, .int 1), (3, .int 0), (2, .int r_3), (0, .ref q_t), (1, .int x1)]) cx dX6_readList_45 (by decide) rfl ?_
      refine v_lv (lv' := [(0, .ref q_t), (1, .int x1), (2, .int r_3), (3, .int 0), (4, .int 1)]) [3, 4, 2, 1, 0] rfl ?_
      refine w_X6_readList_47 cx q_t q_t_m q_t_saved q_t_text q_t_read q_t_counts q_t_scores q_t_isIn q_t_order q_t_row q_t_listing ?_ ?_ N _ _ _ _ _ _ h
      · intro x2_27 x3_28 x4_29 t_at_30 t_number_31 t_read_32 h
        refine v_iconst (v := (-1)) cx dX6_readList_61 (by decide) ?_
        exact v_ireturn cx rfl dX6_readList_62 ⟨_, _, _, _, rfl, rfl, h⟩
      · intro x2_33 x3_34 x4_35 t_at_36 t_number_37 t_read_38 h
        refine v_aload_n cx dX6_readList_95 rfl 0 rfl ?_
        refine v_callVpi (As := []) cx (c_X6_isEnd l g D cy q_t q_t_m q_t_saved q_t_text q_t_read q_t_counts q_t_scores q_t_isIn q_t_order q_t_row q_t_listing h) k_X6_102 (by decide) ⟨rfl, rfl⟩ (by decide) rfl rfl (Nat.le_of_ble_eq_true rfl) dX6_readList_96 [0] [1, 2] (by decide) (vj_all 3 rfl (by decide +kernel)) rfl rfl rfl (q0 := 0) rfl rfl (fun r_39 h => ?_)
        refine v_if_eq (tgt := 106) cx dX6_readList_99 (by decide) h (fun h => ?_) (fun h => ?_)
        · refine v_iconst (v := (-1)) cx dX6_readList_106 (by decide) ?_
          exact v_ireturn cx rfl dX6_readList_107 ⟨_, _, _, _, rfl, rfl, h⟩
        · refine v_iload_n cx dX6_readList_102 rfl 3 rfl ?_
          refine v_goto (tgt := 107) cx dX6_readList_103 (by decide) ?_
          exact v_ireturn cx rfl dX6_readList_107 ⟨_, _, _, _, rfl, rfl, h⟩
abbrev rm_X6_readVariant : Room := { frames := 3, cells := 0, slots := 0, locals := 67 }
set_option maxHeartbeats 4000000 in
set_option maxRecDepth 100000 in
theorem w_X6_readVariant_2 {p : Program} {l : Launch} {e : Env} {s : State} {m : MethodId} {args : Array Value} {below : List Frame} {meth : Method} {c : Code} {Q9 : State → Prop} {mn : String} {Ts : List Cond} {D : va_G} {cy : Nat → ClassId} {g : gT} {A : Nat → Prop} (cx : vC p s m args meth c cX6_readVariant 3 (some .boolean) RX6 mn Ts D cy g A) (q_t q_t_m q_t_saved q_t_text q_t_read q_t_counts q_t_scores q_t_isIn q_t_order q_t_row q_t_listing : Nat) {t_savedCount : Int32} {t_textLength : Int32} {t_code : Int32} {t_at : Int32} {t_number : Int32} {t_ranked : Int32} {t_emptySide : Int32} {t_listingLength : Int32} {t_hash : Int64} {t_text : Nat → Int32} {N : Nat} {K21 : Int32 → (Nat → Int32) → Prop} (hK21 : ∀ (x1 : Int32) (t_read : Nat → Int32), K21 x1 t_read → vV p l e rm_X6_readVariant s m args below meth c Q9 3 D A 0 0 [(q_t, .inr (6, [.ref q_t_m, .ref q_t_saved, .int t_savedCount, .ref q_t_text, .int t_textLength, .int t_code, .int t_at, .ref q_t_read, .int t_number, .ref q_t_counts, .ref q_t_scores, .ref q_t_isIn, .ref q_t_order, .int t_ranked, .int t_emptySide, .ref q_t_row, .ref q_t_listing, .int t_listingLength, .long t_hash])), (q_t_read, .inl (cy 0, 40, .inl t_read)), (q_t_text, .inl (cy 0, 120, .inl t_text))] 21 [(0, .ref q_t), (1, .int x1)] []) : ∀ (n : Nat) (x1 : Int32) (t_read : Nat → Int32), p_X6_readVariant_2 N t_savedCount t_textLength t_code t_at t_number t_ranked t_emptySide t_listingLength t_hash t_text K21 n x1 t_read → vV p l e rm_X6_readVariant s m args below meth c Q9 3 D A 0 0 [(q_t, .inr (6, [.ref q_t_m, .ref q_t_saved, .int t_savedCount, .ref q_t_text, .int t_textLength, .int t_code, .int t_at, .ref q_t_read, .int t_number, .ref q_t_counts, .ref q_t_scores, .ref q_t_isIn, .ref q_t_order, .int t_ranked, .int t_emptySide, .ref q_t_row, .ref q_t_listing, .int t_listingLength, .long t_hash])), (q_t_read, .inl (cy 0, 40, .inl t_read)), (q_t_text, .inl (cy 0, 120, .inl t_text))] 2 [(0, .ref q_t), (1, .int x1)] [] := by
  intro n
  induction n with
  | zero => intro x1 t_read h; exact False.elim h
  | succ n ih =>
    intro x1 t_read h
    unfold p_X6_readVariant_2 at h
    refine v_iload_n cx dX6_readVariant_2 rfl 1 rfl ?_
    refine v_bipush (v := 40) cx dX6_readVariant_3 (by decide) ?_
    refine v_icmp_ge (tgt := 21) cx dX6_readVariant_5 (by decide) h (fun h => ?_) (fun h => ?_)
    · refine v_lv (lv' := [(0, .ref q_t), (1, .int x1)]) [0, 1] rfl ?_
      exact hK21 _ _ h
    · refine v_aload_n cx dX6_readVariant_8 rfl 0 rfl ?_
      refine g_X6_19 cx dX6_readVariant_9 0 rfl rfl ?_
      refine v_iload_n cx dX6_readVariant_12 rfl 1 rfl ?_
      refine v_iconst (v := 0) cx dX6_readVariant_13 (by decide) ?_
      refine v_iast (ws' := [(q_t, .inr (6, [.ref q_t_m, .ref q_t_saved, .int t_savedCount, .ref q_t_text, .int t_textLength, .int t_code, .int t_at, .ref q_t_read, .int t_number, .ref q_t_counts, .ref q_t_scores, .ref q_t_isIn, .ref q_t_order, .int t_ranked, .int t_emptySide, .ref q_t_row, .ref q_t_listing, .int t_listingLength, .long t_hash])), (q_t_read, .inl (cy 0, 40, .inl (upd t_read x1.toNatClampNeg 0))), (q_t_text, .inl (cy 0, 120, .inl t_text))]) cx dX6_readVariant_14 1 rfl h rfl (fun h => ?_)
      refine v_iinc (v := x1 + 1) (k0 := 1) (lv' := [(1, .int (x1 + 1)), (0, .ref q_t)]) cx dX6_readVariant_15 rfl rfl (by decide) rfl ?_
      refine v_goto (tgt := 2) cx dX6_readVariant_18 (by decide) ?_
      refine v_lv (lv' := [(0, .ref q_t), (1, .int (x1 + 1))]) [1, 0] rfl ?_
      exact ih _ _ h
set_option maxHeartbeats 4000000 in
set_option maxRecDepth 100000 in
theorem c_X6_readVariant (l : Launch) (g : gT) (D : va_G) (cy : Nat → ClassId) (q_t q_t_m q_t_saved q_t_text q_t_read q_t_counts q_t_scores q_t_isIn q_t_order q_t_row q_t_listing : Nat) {t_savedCount : Int32} {t_textLength : Int32} {t_code : Int32} {t_at : Int32} {t_number : Int32} {t_ranked : Int32} {t_emptySide : Int32} {t_listingLength : Int32} {t_hash : Int64} {t_read : Nat → Int32} {t_text : Nat → Int32} {N : Nat} {Q : Int32 → Int32 → Int32 → (Nat → Int32) → Prop} (h : p_X6_readVariant N t_savedCount t_textLength t_code t_at t_number t_ranked t_emptySide t_listingLength t_hash t_read t_text Q) : UC l yX6_readVariant cX6_readVariant 3 (some .boolean) rm_X6_readVariant g D cy [.ref q_t] [(q_t, .inr (6, [.ref q_t_m, .ref q_t_saved, .int t_savedCount, .ref q_t_text, .int t_textLength, .int t_code, .int t_at, .ref q_t_read, .int t_number, .ref q_t_counts, .ref q_t_scores, .ref q_t_isIn, .ref q_t_order, .int t_ranked, .int t_emptySide, .ref q_t_row, .ref q_t_listing, .int t_listingLength, .long t_hash])), (q_t_read, .inl (cy 0, 40, .inl t_read)), (q_t_text, .inl (cy 0, 120, .inl t_text))] (fun v w => ∃ (r : Int32) (t_at' : Int32) (t_number' : Int32) (t_read' : Nat → Int32), v = some (.int r) ∧ w = [(q_t, .inr (6, [.ref q_t_m, .ref q_t_saved, .int t_savedCount, .ref q_t_text, .int t_textLength, .int t_code, .int t_at', .ref q_t_read, .int t_number', .ref q_t_counts, .ref q_t_scores, .ref q_t_isIn, .ref q_t_order, .int t_ranked, .int t_emptySide, .ref q_t_row, .ref q_t_listing, .int t_listingLength, .long t_hash])), (q_t_read, .inl (cy 0, 40, .inl t_read')), (q_t_text, .inl (cy 0, 120, .inl t_text))] ∧ Q r t_at' t_number' t_read') := by
  refine UC_of (by decide +kernel) (Nat.le_of_ble_eq_true rfl) [(0, .ref q_t)] rfl (fun p e s m args below meth c A cx => ?_)
  unfold p_X6_readVariant at h
  refine v_iconst (v := 0) cx dX6_readVariant_0 (by decide) ?_
  refine v_istore_n (lv' := [(1, .int 0), (0, .ref q_t)]) cx dX6_readVariant_1 rfl (by decide) rfl ?_
  refine v_lv (lv' := [(0, .ref q_t), (1, .int 0)]) [1, 0] rfl ?_
  refine w_X6_readVariant_2 cx q_t q_t_m q_t_saved q_t_text q_t_read q_t_counts q_t_scores q_t_isIn q_t_order q_t_row q_t_listing ?_ N _ _ h
  · intro x1_1 t_read_2 h
    refine v_aload_n cx dX6_readVariant_21 rfl 0 rfl ?_
    refine v_iconst (v := 0) cx dX6_readVariant_22 (by decide) ?_
    refine p_X6_66 (ws' := [(q_t, .inr (6, [.ref q_t_m, .ref q_t_saved, .int t_savedCount, .ref q_t_text, .int t_textLength, .int t_code, .int 0, .ref q_t_read, .int t_number, .ref q_t_counts, .ref q_t_scores, .ref q_t_isIn, .ref q_t_order, .int t_ranked, .int t_emptySide, .ref q_t_row, .ref q_t_listing, .int t_listingLength, .long t_hash])), (q_t_read, .inl (cy 0, 40, .inl t_read_2)), (q_t_text, .inl (cy 0, 120, .inl t_text))]) cx dX6_readVariant_23 0 rfl rfl rfl (Nat.le_of_ble_eq_true rfl) rfl ?_
    refine v_aload_n cx dX6_readVariant_26 rfl 0 rfl ?_
    refine v_callV (As := []) cx (c_X6_skips l g D cy q_t q_t_m q_t_saved q_t_text q_t_read q_t_counts q_t_scores q_t_isIn q_t_order q_t_row q_t_listing h) k_X6_89 (by decide) (by decide) rfl rfl (Nat.le_of_ble_eq_true rfl) dX6_readVariant_27 [0, 2] [1] (by decide) rfl rfl rfl (q0 := 0) rfl rfl (fun v9 w9 hp => ?_)
    obtain ⟨r_3, u_4, rfl, rfl, h⟩ := hp
    refine v_afterJ (ws' := [(q_t, .inr (6, [.ref q_t_m, .ref q_t_saved, .int t_savedCount, .ref q_t_text, .int t_textLength, .int t_code, .int u_4, .ref q_t_read, .int t_number, .ref q_t_counts, .ref q_t_scores, .ref q_t_isIn, .ref q_t_order, .int t_ranked, .int t_emptySide, .ref q_t_row, .ref q_t_listing, .int t_listingLength, .long t_hash])), (q_t_read, .inl (cy 0, 40, .inl t_read_2)), (q_t_text, .inl (cy 0, 120, .inl t_text))]) (st' := [.int r_3]) (ce := 0) (sl := 0) 3 [3, 1, 4] (by decide +kernel) (by decide +kernel) rfl rfl ⟨rfl, rfl⟩ ?_
    refine v_istore_n (lv' := [(1, .int r_3), (0, .ref q_t)]) cx dX6_readVariant_30 rfl (by decide) rfl ?_
    refine v_aload_n cx dX6_readVariant_31 rfl 1 rfl ?_
    refine v_iconst (v := 0) cx dX6_readVariant_32 (by decide) ?_
    refine v_callV (As := [.int 0]) cx (c_X6_readName l g D cy q_t q_t_m q_t_saved q_t_text q_t_read q_t_counts q_t_scores q_t_isIn q_t_order q_t_row q_t_listing h) k_X6_76 (by decide) (by decide) rfl rfl (Nat.le_of_ble_eq_true rfl) dX6_readVariant_33 [0, 2, 1] [] (by decide) rfl rfl rfl (q0 := 0) rfl rfl (fun v9 w9 hp => ?_)
    obtain ⟨r_5, u_6, u_7, rfl, rfl, h⟩ := hp
    refine v_afterJ (ws' := [(q_t, .inr (6, [.ref q_t_m, .ref q_t_saved, .int t_savedCount, .ref q_t_text, .int t_textLength, .int t_code, .int u_6, .ref q_t_read, .int t_number, .ref q_t_counts, .ref q_t_scores, .ref q_t_isIn, .ref q_t_order, .int t_ranked, .int t_emptySide, .ref q_t_row, .ref q_t_listing, .int t_listingLength, .long t_hash])), (q_t_read, .inl (cy 0, 40, .inl u_7)), (q_t_text, .inl (cy 0, 120, .inl t_text))]) (st' := [.int r_5]) (ce := 0) (sl := 0) 3 [3, 5, 4] (by decide +kernel) (by decide +kernel) rfl rfl ⟨rfl, rfl⟩ ?_
    refine v_if_eq (tgt := 106) cx dX6_readVariant_36 (by decide) h (fun h => ?_) (fun h => ?_)
    · refine v_iconst (v := 0) cx dX6_readVariant_106 (by decide) ?_
      refine v_istore_n (lv' := [(2, .int 0), (1, .int r_3), (0, .ref q_t)]) cx dX6_readVariant_107 rfl (by decide) rfl ?_
      refine v_iload_n cx dX6_readVariant_108 rfl 0 rfl ?_
      refine v_if_eq (tgt := 123) (P1 := True) (P2 := False) cx dX6_readVariant_109 (by decide) (by decide) (fun _ => ?_) (fun z => z.elim)
      refine v_iconst (v := 0) cx dX6_readVariant_123 (by decide) ?_
      refine v_istore_n (lv' := [(1, .int 0), (2, .int 0), (0, .ref q_t)]) cx dX6_readVariant_124 rfl (by decide) rfl ?_
      refine v_iload_n cx dX6_readVariant_125 rfl 1 rfl ?_
      refine v_if_eq (tgt := 140) (P1 := True) (P2 := False) cx dX6_readVariant_126 (by decide) (by decide) (fun _ => ?_) (fun z => z.elim)
      refine v_iconst (v := 0) cx dX6_readVariant_140 (by decide) ?_
      exact v_ireturn cx rfl dX6_readVariant_141 ⟨_, _, _, _, rfl, rfl, h⟩
    · refine v_aload_n cx dX6_readVariant_39 rfl 1 rfl ?_
      refine v_bipush (v := 47) cx dX6_readVariant_40 (by decide) ?_
      refine v_callV (As := [.int 47]) cx (c_X6_takes l g D cy q_t q_t_m q_t_saved q_t_text q_t_read q_t_counts q_t_scores q_t_isIn q_t_order q_t_row q_t_listing h) k_X6_80 (by decide) (by decide) rfl rfl (Nat.le_of_ble_eq_true rfl) dX6_readVariant_42 [0, 2] [1] (by decide) rfl rfl rfl (q0 := 0) rfl rfl (fun v9 w9 hp => ?_)
      obtain ⟨r_8, u_9, rfl, rfl, h⟩ := hp
      refine v_afterJ (ws' := [(q_t, .inr (6, [.ref q_t_m, .ref q_t_saved, .int t_savedCount, .ref q_t_text, .int t_textLength, .int t_code, .int u_9, .ref q_t_read, .int t_number, .ref q_t_counts, .ref q_t_scores, .ref q_t_isIn, .ref q_t_order, .int t_ranked, .int t_emptySide, .ref q_t_row, .ref q_t_listing, .int t_listingLength, .long t_hash])), (q_t_read, .inl (cy 0, 40, .inl u_7)), (q_t_text, .inl (cy 0, 120, .inl t_text))]) (st' := [.int r_8]) (ce := 0) (sl := 0) 3 [3, 1, 4] (by decide +kernel) (by decide +kernel) rfl rfl ⟨rfl, rfl⟩ ?_
      refine v_if_eq (tgt := 106) cx dX6_readVariant_45 (by decide) h (fun h => ?_) (fun h => ?_)
      · refine v_iconst (v := 0) cx dX6_readVariant_106 (by decide) ?_
        refine v_istore_n (lv' := [(2, .int 0), (1, .int r_3), (0, .ref q_t)]) cx dX6_readVariant_107 rfl (by decide) rfl ?_
        refine v_iload_n cx dX6_readVariant_108 rfl 0 rfl ?_
        refine v_if_eq (tgt := 123) (P1 := True) (P2 := False) cx dX6_readVariant_109 (by decide) (by decide) (fun _ => ?_) (fun z => z.elim)
        refine v_iconst (v := 0) cx dX6_readVariant_123 (by decide) ?_
        refine v_istore_n (lv' := [(1, .int 0), (2, .int 0), (0, .ref q_t)]) cx dX6_readVariant_124 rfl (by decide) rfl ?_
        refine v_iload_n cx dX6_readVariant_125 rfl 1 rfl ?_
        refine v_if_eq (tgt := 140) (P1 := True) (P2 := False) cx dX6_readVariant_126 (by decide) (by decide) (fun _ => ?_) (fun z => z.elim)
        refine v_iconst (v := 0) cx dX6_readVariant_140 (by decide) ?_
        exact v_ireturn cx rfl dX6_readVariant_141 ⟨_, _, _, _, rfl, rfl, h⟩
      · refine v_aload_n cx dX6_readVariant_48 rfl 1 rfl ?_
        refine v_iconst (v := 1) cx dX6_readVariant_49 (by decide) ?_
        refine v_callV (As := [.int 1]) cx (c_X6_readName l g D cy q_t q_t_m q_t_saved q_t_text q_t_read q_t_counts q_t_scores q_t_isIn q_t_order q_t_row q_t_listing h) k_X6_76 (by decide) (by decide) rfl rfl (Nat.le_of_ble_eq_true rfl) dX6_readVariant_50 [0, 2, 1] [] (by decide) rfl rfl rfl (q0 := 0) rfl rfl (fun v9 w9 hp => ?_)
        obtain ⟨r_10, u_11, u_12, rfl, rfl, h⟩ := hp
        refine v_afterJ (ws' := [(q_t, .inr (6, [.ref q_t_m, .ref q_t_saved, .int t_savedCount, .ref q_t_text, .int t_textLength, .int t_code, .int u_11, .ref q_t_read, .int t_number, .ref q_t_counts, .ref q_t_scores, .ref q_t_isIn, .ref q_t_order, .int t_ranked, .int t_emptySide, .ref q_t_row, .ref q_t_listing, .int t_listingLength, .long t_hash])), (q_t_read, .inl (cy 0, 40, .inl u_12)), (q_t_text, .inl (cy 0, 120, .inl t_text))]) (st' := [.int r_10]) (ce := 0) (sl := 0) 3 [3, 5, 4] (by decide +kernel) (by decide +kernel) rfl rfl ⟨rfl, rfl⟩ ?_
        refine v_if_eq (tgt := 106) cx dX6_readVariant_53 (by decide) h (fun h => ?_) (fun h => ?_)
        · refine v_iconst (v := 0) cx dX6_readVariant_106 (by decide) ?_
          refine v_istore_n (lv' := [(2, .int 0), (1, .int r_3), (0, .ref q_t)]) cx dX6_readVariant_107 rfl (by decide) rfl ?_
          refine v_iload_n cx dX6_readVariant_108 rfl 0 rfl ?_
          refine v_if_eq (tgt := 123) (P1 := True) (P2 := False) cx dX6_readVariant_109 (by decide) (by decide) (fun _ => ?_) (fun z => z.elim)
          refine v_iconst (v := 0) cx dX6_readVariant_123 (by decide) ?_
          refine v_istore_n (lv' := [(1, .int 0), (2, .int 0), (0, .ref q_t)]) cx dX6_readVariant_124 rfl (by decide) rfl ?_
          refine v_iload_n cx dX6_readVariant_125 rfl 1 rfl ?_
          refine v_if_eq (tgt := 140) (P1 := True) (P2 := False) cx dX6_readVariant_126 (by decide) (by decide) (fun _ => ?_) (fun z => z.elim)
          refine v_iconst (v := 0) cx dX6_readVariant_140 (by decide) ?_
          exact v_ireturn cx rfl dX6_readVariant_141 ⟨_, _, _, _, rfl, rfl, h⟩
        · refine v_aload_n cx dX6_readVariant_56 rfl 1 rfl ?_
          refine v_callV (As := []) cx (c_X6_skips l g D cy q_t q_t_m q_t_saved q_t_text q_t_read q_t_counts q_t_scores q_t_isIn q_t_order q_t_row q_t_listing h) k_X6_89 (by decide) (by decide) rfl rfl (Nat.le_of_ble_eq_true rfl) dX6_readVariant_57 [0, 2] [1] (by decide) rfl rfl rfl (q0 := 0) rfl rfl (fun v9 w9 hp => ?_)
          obtain ⟨r_13, u_14, rfl, rfl, h⟩ := hp
          refine v_afterJ (ws' := [(q_t, .inr (6, [.ref q_t_m, .ref q_t_saved, .int t_savedCount, .ref q_t_text, .int t_textLength, .int t_code, .int u_14, .ref q_t_read, .int t_number, .ref q_t_counts, .ref q_t_scores, .ref q_t_isIn, .ref q_t_order, .int t_ranked, .int t_emptySide, .ref q_t_row, .ref q_t_listing, .int t_listingLength, .long t_hash])), (q_t_read, .inl (cy 0, 40, .inl u_12)), (q_t_text, .inl (cy 0, 120, .inl t_text))]) (st' := [.int r_13]) (ce := 0) (sl := 0) 3 [3, 1, 4] (by decide +kernel) (by decide +kernel) rfl rfl ⟨rfl, rfl⟩ ?_
          refine v_if_eq (tgt := 106) cx dX6_readVariant_60 (by decide) h (fun h => ?_) (fun h => ?_)
          · refine v_iconst (v := 0) cx dX6_readVariant_106 (by decide) ?_
            refine v_istore_n (lv' := [(2, .int 0), (1, .int r_3), (0, .ref q_t)]) cx dX6_readVariant_107 rfl (by decide) rfl ?_
            refine v_iload_n cx dX6_readVariant_108 rfl 0 rfl ?_
            refine v_if_eq (tgt := 123) (P1 := True) (P2 := False) cx dX6_readVariant_109 (by decide) (by decide) (fun _ => ?_) (fun z => z.elim)
            refine v_iconst (v := 0) cx dX6_readVariant_123 (by decide) ?_
            refine v_istore_n (lv' := [(1, .int 0), (2, .int 0), (0, .ref q_t)]) cx dX6_readVariant_124 rfl (by decide) rfl ?_
            refine v_iload_n cx dX6_readVariant_125 rfl 1 rfl ?_
            refine v_if_eq (tgt := 140) (P1 := True) (P2 := False) cx dX6_readVariant_126 (by decide) (by decide) (fun _ => ?_) (fun z => z.elim)
            refine v_iconst (v := 0) cx dX6_readVariant_140 (by decide) ?_
            exact v_ireturn cx rfl dX6_readVariant_141 ⟨_, _, _, _, rfl, rfl, h⟩
          · refine v_aload_n cx dX6_readVariant_63 rfl 1 rfl ?_
            refine v_iconst (v := 2) cx dX6_readVariant_64 (by decide) ?_
            refine v_callV (As := [.int 2]) cx (c_X6_readLanguage l g D cy q_t q_t_m q_t_saved q_t_text q_t_read q_t_counts q_t_scores q_t_isIn q_t_order q_t_row q_t_listing h) k_X6_86 (by decide) (by decide) rfl rfl (Nat.le_of_ble_eq_true rfl) dX6_readVariant_65 [0, 2, 1] [] (by decide) rfl rfl rfl (q0 := 0) rfl rfl (fun v9 w9 hp => ?_)
            obtain ⟨r_15, u_16, u_17, rfl, rfl, h⟩ := hp
            refine v_afterJ (ws' := [(q_t, .inr (6, [.ref q_t_m, .ref q_t_saved, .int t_savedCount, .ref q_t_text, .int t_textLength, .int t_code, .int u_16, .ref q_t_read, .int t_number, .ref q_t_counts, .ref q_t_scores, .ref q_t_isIn, .ref q_t_order, .int t_ranked, .int t_emptySide, .ref q_t_row, .ref q_t_listing, .int t_listingLength, .long t_hash])), (q_t_read, .inl (cy 0, 40, .inl u_17)), (q_t_text, .inl (cy 0, 120, .inl t_text))]) (st' := [.int r_15]) (ce := 0) (sl := 0) 3 [3, 5, 4] (by decide +kernel) (by decide +kernel) rfl rfl ⟨rfl, rfl⟩ ?_
            refine v_if_eq (tgt := 106) cx dX6_readVariant_68 (by decide) h (fun h => ?_) (fun h => ?_)
            · refine v_iconst (v := 0) cx dX6_readVariant_106 (by decide) ?_
              refine v_istore_n (lv' := [(2, .int 0), (1, .int r_3), (0, .ref q_t)]) cx dX6_readVariant_107 rfl (by decide) rfl ?_
              refine v_iload_n cx dX6_readVariant_108 rfl 0 rfl ?_
              refine v_if_eq (tgt := 123) (P1 := True) (P2 := False) cx dX6_readVariant_109 (by decide) (by decide) (fun _ => ?_) (fun z => z.elim)
              refine v_iconst (v := 0) cx dX6_readVariant_123 (by decide) ?_
              refine v_istore_n (lv' := [(1, .int 0), (2, .int 0), (0, .ref q_t)]) cx dX6_readVariant_124 rfl (by decide) rfl ?_
              refine v_iload_n cx dX6_readVariant_125 rfl 1 rfl ?_
              refine v_if_eq (tgt := 140) (P1 := True) (P2 := False) cx dX6_readVariant_126 (by decide) (by decide) (fun _ => ?_) (fun z => z.elim)
              refine v_iconst (v := 0) cx dX6_readVariant_140 (by decide) ?_
              exact v_ireturn cx rfl dX6_readVariant_141 ⟨_, _, _, _, rfl, rfl, h⟩
            · refine v_aload_n cx dX6_readVariant_71 rfl 1 rfl ?_
              refine v_callV (As := []) cx (c_X6_skips l g D cy q_t q_t_m q_t_saved q_t_text q_t_read q_t_counts q_t_scores q_t_isIn q_t_order q_t_row q_t_listing h) k_X6_89 (by decide) (by decide) rfl rfl (Nat.le_of_ble_eq_true rfl) dX6_readVariant_72 [0, 2] [1] (by decide) rfl rfl rfl (q0 := 0) rfl rfl (fun v9 w9 hp => ?_)
              obtain ⟨r_18, u_19, rfl, rfl, h⟩ := hp
              refine v_afterJ (ws' := [(q_t, .inr (6, [.ref q_t_m, .ref q_t_saved, .int t_savedCount, .ref q_t_text, .int t_textLength, .int t_code, .int u_19, .ref q_t_read, .int t_number, .ref q_t_counts, .ref q_t_scores, .ref q_t_isIn, .ref q_t_order, .int t_ranked, .int t_emptySide, .ref q_t_row, .ref q_t_listing, .int t_listingLength, .long t_hash])), (q_t_read, .inl (cy 0, 40, .inl u_17)), (q_t_text, .inl (cy 0, 120, .inl t_text))]) (st' := [.int r_18]) (ce := 0) (sl := 0) 3 [3, 1, 4] (by decide +kernel) (by decide +kernel) rfl rfl ⟨rfl, rfl⟩ ?_
              refine v_if_eq (tgt := 106) cx dX6_readVariant_75 (by decide) h (fun h => ?_) (fun h => ?_)
              · refine v_iconst (v := 0) cx dX6_readVariant_106 (by decide) ?_
                refine v_istore_n (lv' := [(2, .int 0), (1, .int r_3), (0, .ref q_t)]) cx dX6_readVariant_107 rfl (by decide) rfl ?_
                refine v_iload_n cx dX6_readVariant_108 rfl 0 rfl ?_
                refine v_if_eq (tgt := 123) (P1 := True) (P2 := False) cx dX6_readVariant_109 (by decide) (by decide) (fun _ => ?_) (fun z => z.elim)
                refine v_iconst (v := 0) cx dX6_readVariant_123 (by decide) ?_
                refine v_istore_n (lv' := [(1, .int 0), (2, .int 0), (0, .ref q_t)]) cx dX6_readVariant_124 rfl (by decide) rfl ?_
                refine v_iload_n cx dX6_readVariant_125 rfl 1 rfl ?_
                refine v_if_eq (tgt := 140) (P1 := True) (P2 := False) cx dX6_readVariant_126 (by decide) (by decide) (fun _ => ?_) (fun z => z.elim)
                refine v_iconst (v := 0) cx dX6_readVariant_140 (by decide) ?_
                exact v_ireturn cx rfl dX6_readVariant_141 ⟨_, _, _, _, rfl, rfl, h⟩
              · refine v_aload_n cx dX6_readVariant_78 rfl 1 rfl ?_
                refine v_iconst (v := 5) cx dX6_readVariant_79 (by decide) ?_
                refine v_callV (As := [.int 5]) cx (c_X6_readName l g D cy q_t q_t_m q_t_saved q_t_text q_t_read q_t_counts q_t_scores q_t_isIn q_t_order q_t_row q_t_listing h) k_X6_76 (by decide) (by decide) rfl rfl (Nat.le_of_ble_eq_true rfl) dX6_readVariant_80 [0, 2, 1] [] (by decide) rfl rfl rfl (q0 := 0) rfl rfl (fun v9 w9 hp => ?_)
                obtain ⟨r_20, u_21, u_22, rfl, rfl, h⟩ := hp
                refine v_afterJ (ws' := [(q_t, .inr (6, [.ref q_t_m, .ref q_t_saved, .int t_savedCount, .ref q_t_text, .int t_textLength, .int t_code, .int u_21, .ref q_t_read, .int t_number, .ref q_t_counts, .ref q_t_scores, .ref q_t_isIn, .ref q_t_order, .int t_ranked, .int t_emptySide, .ref q_t_row, .ref q_t_listing, .int t_listingLength, .long t_hash])), (q_t_read, .inl (cy 0, 40, .inl u_22)), (q_t_text, .inl (cy 0, 120, .inl t_text))]) (st' := [.int r_20]) (ce := 0) (sl := 0) 3 [3, 5, 4] (by decide +kernel) (by decide +kernel) rfl rfl ⟨rfl, rfl⟩ ?_
                refine v_if_eq (tgt := 106) cx dX6_readVariant_83 (by decide) h (fun h => ?_) (fun h => ?_)
                · refine v_iconst (v := 0) cx dX6_readVariant_106 (by decide) ?_
                  refine v_istore_n (lv' := [(2, .int 0), (1, .int r_3), (0, .ref q_t)]) cx dX6_readVariant_107 rfl (by decide) rfl ?_
                  refine v_iload_n cx dX6_readVariant_108 rfl 0 rfl ?_
                  refine v_if_eq (tgt := 123) (P1 := True) (P2 := False) cx dX6_readVariant_109 (by decide) (by decide) (fun _ => ?_) (fun z => z.elim)
                  refine v_iconst (v := 0) cx dX6_readVariant_123 (by decide) ?_
                  refine v_istore_n (lv' := [(1, .int 0), (2, .int 0), (0, .ref q_t)]) cx dX6_readVariant_124 rfl (by decide) rfl ?_
                  refine v_iload_n cx dX6_readVariant_125 rfl 1 rfl ?_
                  refine v_if_eq (tgt := 140) (P1 := True) (P2 := False) cx dX6_readVariant_126 (by decide) (by decide) (fun _ => ?_) (fun z => z.elim)
                  refine v_iconst (v := 0) cx dX6_readVariant_140 (by decide) ?_
                  exact v_ireturn cx rfl dX6_readVariant_141 ⟨_, _, _, _, rfl, rfl, h⟩
                · refine v_aload_n cx dX6_readVariant_86 rfl 1 rfl ?_
                  refine v_callV (As := []) cx (c_X6_skips l g D cy q_t q_t_m q_t_saved q_t_text q_t_read q_t_counts q_t_scores q_t_isIn q_t_order q_t_row q_t_listing h) k_X6_89 (by decide) (by decide) rfl rfl (Nat.le_of_ble_eq_true rfl) dX6_readVariant_87 [0, 2] [1] (by decide) rfl rfl rfl (q0 := 0) rfl rfl (fun v9 w9 hp => ?_)
                  obtain ⟨r_23, u_24, rfl, rfl, h⟩ := hp
                  refine v_afterJ (ws' := [(q_t, .inr (6, [.ref q_t_m, .ref q_t_saved, .int t_savedCount, .ref q_t_text, .int t_textLength, .int t_code, .int u_24, .ref q_t_read, .int t_number, .ref q_t_counts, .ref q_t_scores, .ref q_t_isIn, .ref q_t_order, .int t_ranked, .int t_emptySide, .ref q_t_row, .ref q_t_listing, .int t_listingLength, .long t_hash])), (q_t_read, .inl (cy 0, 40, .inl u_22)), (q_t_text, .inl (cy 0, 120, .inl t_text))]) (st' := [.int r_23]) (ce := 0) (sl := 0) 3 [3, 1, 4] (by decide +kernel) (by decide +kernel) rfl rfl ⟨rfl, rfl⟩ ?_
                  refine v_if_eq (tgt := 106) cx dX6_readVariant_90 (by decide) h (fun h => ?_) (fun h => ?_)
                  · refine v_iconst (v := 0) cx dX6_readVariant_106 (by decide) ?_
                    refine v_istore_n (lv' := [(2, .int 0), (1, .int r_3), (0, .ref q_t)]) cx dX6_readVariant_107 rfl (by decide) rfl ?_
                    refine v_iload_n cx dX6_readVariant_108 rfl 0 rfl ?_
                    refine v_if_eq (tgt := 123) (P1 := True) (P2 := False) cx dX6_readVariant_109 (by decide) (by decide) (fun _ => ?_) (fun z => z.elim)
                    refine v_iconst (v := 0) cx dX6_readVariant_123 (by decide) ?_
                    refine v_istore_n (lv' := [(1, .int 0), (2, .int 0), (0, .ref q_t)]) cx dX6_readVariant_124 rfl (by decide) rfl ?_
                    refine v_iload_n cx dX6_readVariant_125 rfl 1 rfl ?_
                    refine v_if_eq (tgt := 140) (P1 := True) (P2 := False) cx dX6_readVariant_126 (by decide) (by decide) (fun _ => ?_) (fun z => z.elim)
                    refine v_iconst (v := 0) cx dX6_readVariant_140 (by decide) ?_
                    exact v_ireturn cx rfl dX6_readVariant_141 ⟨_, _, _, _, rfl, rfl, h⟩
                  · refine v_aload_n cx dX6_readVariant_93 rfl 1 rfl ?_
                    refine v_bipush (v := 6) cx dX6_readVariant_94 (by decide) ?_
                    refine v_callV (As := [.int 6]) cx (c_X6_readDigits l g D cy q_t q_t_m q_t_saved q_t_text q_t_read q_t_counts q_t_scores q_t_isIn q_t_order q_t_row q_t_listing h) k_X6_93 (by decide) (by decide) rfl rfl (Nat.le_of_ble_eq_true rfl) dX6_readVariant_96 [0, 2] [1] (by decide) rfl rfl rfl (q0 := 0) rfl rfl (fun v9 w9 hp => ?_)
                    obtain ⟨r_25, u_26, u_27, rfl, rfl, h⟩ := hp
                    refine v_afterJ (ws' := [(q_t, .inr (6, [.ref q_t_m, .ref q_t_saved, .int t_savedCount, .ref q_t_text, .int t_textLength, .int t_code, .int u_26, .ref q_t_read, .int u_27, .ref q_t_counts, .ref q_t_scores, .ref q_t_isIn, .ref q_t_order, .int t_ranked, .int t_emptySide, .ref q_t_row, .ref q_t_listing, .int t_listingLength, .long t_hash])), (q_t_read, .inl (cy 0, 40, .inl u_22)), (q_t_text, .inl (cy 0, 120, .inl t_text))]) (st' := [.int r_25]) (ce := 0) (sl := 0) 3 [3, 1, 4] (by decide +kernel) (by decide +kernel) rfl rfl ⟨rfl, rfl⟩ ?_
                    refine v_if_eq (tgt := 106) cx dX6_readVariant_99 (by decide) h (fun h => ?_) (fun h => ?_)
                    · refine v_iconst (v := 0) cx dX6_readVariant_106 (by decide) ?_
                      refine v_istore_n (lv' := [(2, .int 0), (1, .int r_3), (0, .ref q_t)]) cx dX6_readVariant_107 rfl (by decide) rfl ?_
                      refine v_iload_n cx dX6_readVariant_108 rfl 0 rfl ?_
                      refine v_if_eq (tgt := 123) (P1 := True) (P2 := False) cx dX6_readVariant_109 (by decide) (by decide) (fun _ => ?_) (fun z => z.elim)
                      refine v_iconst (v := 0) cx dX6_readVariant_123 (by decide) ?_
                      refine v_istore_n (lv' := [(1, .int 0), (2, .int 0), (0, .ref q_t)]) cx dX6_readVariant_124 rfl (by decide) rfl ?_
                      refine v_iload_n cx dX6_readVariant_125 rfl 1 rfl ?_
                      refine v_if_eq (tgt := 140) (P1 := True) (P2 := False) cx dX6_readVariant_126 (by decide) (by decide) (fun _ => ?_) (fun z => z.elim)
                      refine v_iconst (v := 0) cx dX6_readVariant_140 (by decide) ?_
                      exact v_ireturn cx rfl dX6_readVariant_141 ⟨_, _, _, _, rfl, rfl, h⟩
                    · refine v_iconst (v := 1) cx dX6_readVariant_102 (by decide) ?_
                      refine v_goto (tgt := 107) cx dX6_readVariant_103 (by decide) ?_
                      refine v_istore_n (lv' := [(2, .int 1), (1, .int r_3), (0, .ref q_t)]) cx dX6_readVariant_107 rfl (by decide) rfl ?_
                      refine v_iload_n cx dX6_readVariant_108 rfl 0 rfl ?_
                      refine v_if_eq (tgt := 123) (P1 := False) (P2 := True) cx dX6_readVariant_109 (by decide) (by decide) (fun z => z.elim) (fun _ => ?_)
                      refine v_aload_n cx dX6_readVariant_112 rfl 2 rfl ?_
                      refine v_callV (As := []) cx (c_X6_skips l g D cy q_t q_t_m q_t_saved q_t_text q_t_read q_t_counts q_t_scores q_t_isIn q_t_order q_t_row q_t_listing h) k_X6_89 (by decide) (by decide) rfl rfl (Nat.le_of_ble_eq_true rfl) dX6_readVariant_113 [0, 2] [1] (by decide) rfl rfl rfl (q0 := 0) rfl rfl (fun v9 w9 hp => ?_)
                      obtain ⟨r_28, u_29, rfl, rfl, h⟩ := hp
                      refine v_afterJ (ws' := [(q_t, .inr (6, [.ref q_t_m, .ref q_t_saved, .int t_savedCount, .ref q_t_text, .int t_textLength, .int t_code, .int u_29, .ref q_t_read, .int u_27, .ref q_t_counts, .ref q_t_scores, .ref q_t_isIn, .ref q_t_order, .int t_ranked, .int t_emptySide, .ref q_t_row, .ref q_t_listing, .int t_listingLength, .long t_hash])), (q_t_read, .inl (cy 0, 40, .inl u_22)), (q_t_text, .inl (cy 0, 120, .inl t_text))]) (st' := [.int r_28]) (ce := 0) (sl := 0) 3 [3, 1, 4] (by decide +kernel) (by decide +kernel) rfl rfl ⟨rfl, rfl⟩ ?_
                      refine v_if_eq (tgt := 123) cx dX6_readVariant_116 (by decide) h (fun h => ?_) (fun h => ?_)
                      · refine v_iconst (v := 0) cx dX6_readVariant_123 (by decide) ?_
                        refine v_istore_n (lv' := [(1, .int 0), (2, .int 1), (0, .ref q_t)]) cx dX6_readVariant_124 rfl (by decide) rfl ?_
                        refine v_iload_n cx dX6_readVariant_125 rfl 1 rfl ?_
                        refine v_if_eq (tgt := 140) (P1 := False) (P2 := True) cx dX6_readVariant_126 (by decide) (by decide) (fun z => z.elim) (fun _ => ?_)
                        refine v_aload_n cx dX6_readVariant_129 rfl 2 rfl ?_
                        refine v_callVpi (As := []) cx (c_X6_isEnd l g D cy q_t q_t_m q_t_saved q_t_text q_t_read q_t_counts q_t_scores q_t_isIn q_t_order q_t_row q_t_listing h) k_X6_102 (by decide) ⟨rfl, rfl⟩ (by decide) rfl rfl (Nat.le_of_ble_eq_true rfl) dX6_readVariant_130 [0] [1, 2] (by decide) (vj_all 3 rfl (by decide +kernel)) rfl rfl rfl (q0 := 0) rfl rfl (fun r_30 h => ?_)
                        refine v_if_eq (tgt := 140) cx dX6_readVariant_133 (by decide) h (fun h => ?_) (fun h => ?_)
                        · refine v_iconst (v := 0) cx dX6_readVariant_140 (by decide) ?_
                          exact v_ireturn cx rfl dX6_readVariant_141 ⟨_, _, _, _, rfl, rfl, h⟩
                        · refine v_iconst (v := 1) cx dX6_readVariant_136 (by decide) ?_
                          refine v_goto (tgt := 141) cx dX6_readVariant_137 (by decide) ?_
                          exact v_ireturn cx rfl dX6_readVariant_141 ⟨_, _, _, _, rfl, rfl, h⟩
                      · refine v_iconst (v := 1) cx dX6_readVariant_119 (by decide) ?_
                        refine v_goto (tgt := 124) cx dX6_readVariant_120 (by decide) ?_
                        refine v_istore_n (lv' := [(1, .int 1), (2, .int 1), (0, .ref q_t)]) cx dX6_readVariant_124 rfl (by decide) rfl ?_
                        refine v_iload_n cx dX6_readVariant_125 rfl 1 rfl ?_
                        refine v_if_eq (tgt := 140) (P1 := False) (P2 := True) cx dX6_readVariant_126 (by decide) (by decide) (fun z => z.elim) (fun _ => ?_)
                        refine v_aload_n cx dX6_readVariant_129 rfl 2 rfl ?_
                        refine v_callVpi (As := []) cx (c_X6_isEnd l g D cy q_t q_t_m q_t_saved q_t_text q_t_read q_t_counts q_t_scores q_t_isIn q_t_order q_t_row q_t_listing h) k_X6_102 (by decide) ⟨rfl, rfl⟩ (by decide) rfl rfl (Nat.le_of_ble_eq_true rfl) dX6_readVariant_130 [0] [1, 2] (by decide) (vj_all 3 rfl (by decide +kernel)) rfl rfl rfl (q0 := 0) rfl rfl (fun r_31 h => ?_)
                        refine v_if_eq (tgt := 140) cx dX6_readVariant_133 (by decide) h (fun h => ?_) (fun h => ?_)
                        · refine v_iconst (v := 0) cx dX6_readVariant_140 (by decide) ?_
                          exact v_ireturn cx rfl dX6_readVariant_141 ⟨_, _, _, _, rfl, rfl, h⟩
                        · refine v_iconst (v := 1) cx dX6_readVariant_136 (by decide) ?_
                          refine v_goto (tgt := 141) cx dX6_readVariant_137 (by decide) ?_
                          exact v_ireturn cx rfl dX6_readVariant_141 ⟨_, _, _, _, rfl, rfl, h⟩
abbrev rm_X6_listFault : Room := { frames := 6, cells := 0, slots := 0, locals := 136 }
set_option maxHeartbeats 4000000 in
set_option maxRecDepth 100000 in
theorem c_X6_listFault (l : Launch) (g : gT) (D : va_G) (cy : Nat → ClassId) (q_t q_t_m q_t_saved q_t_text q_t_read q_t_counts q_t_scores q_t_isIn q_t_order q_t_row q_t_listing : Nat) {t_savedCount : Int32} {t_textLength : Int32} {t_code : Int32} {t_at : Int32} {t_number : Int32} {t_ranked : Int32} {t_emptySide : Int32} {t_listingLength : Int32} {t_hash : Int64} {t_read : Nat → Int32} {t_text : Nat → Int32} {x1 : Int32} {N : Nat} {Q : Int32 → Int32 → Int32 → Int32 → (Nat → Int32) → Prop} (h : p_X6_listFault N t_savedCount t_textLength t_code t_at t_number t_ranked t_emptySide t_listingLength t_hash t_read t_text x1 Q) : UC l yX6_listFault cX6_listFault 2 (some .int) rm_X6_listFault g D cy [.ref q_t, .int x1] [(q_t, .inr (6, [.ref q_t_m, .ref q_t_saved, .int t_savedCount, .ref q_t_text, .int t_textLength, .int t_code, .int t_at, .ref q_t_read, .int t_number, .ref q_t_counts, .ref q_t_scores, .ref q_t_isIn, .ref q_t_order, .int t_ranked, .int t_emptySide, .ref q_t_row, .ref q_t_listing, .int t_listingLength, .long t_hash])), (q_t_read, .inl (cy 0, 40, .inl t_read)), (q_t_text, .inl (cy 0, 120, .inl t_text))] (fun v w => ∃ (r : Int32) (t_code' : Int32) (t_at' : Int32) (t_number' : Int32) (t_read' : Nat → Int32), v = some (.int r) ∧ w = [(q_t, .inr (6, [.ref q_t_m, .ref q_t_saved, .int t_savedCount, .ref q_t_text, .int t_textLength, .int t_code', .int t_at', .ref q_t_read, .int t_number', .ref q_t_counts, .ref q_t_scores, .ref q_t_isIn, .ref q_t_order, .int t_ranked, .int t_emptySide, .ref q_t_row, .ref q_t_listing, .int t_listingLength, .long t_hash])), (q_t_read, .inl (cy 0, 40, .inl t_read')), (q_t_text, .inl (cy 0, 120, .inl t_text))] ∧ Q r t_code' t_at' t_number' t_read') := by
  refine UC_of (by decide +kernel) (Nat.le_of_ble_eq_true rfl) [(0, .ref q_t), (1, .int x1)] rfl (fun p e s m args below meth c A cx => ?_)
  unfold p_X6_listFault at h
  refine v_aload_n cx dX6_listFault_0 rfl 0 rfl ?_
  refine v_iload_n cx dX6_listFault_1 rfl 1 rfl ?_
  refine v_iconst (v := 0) cx dX6_listFault_2 (by decide) ?_
  refine v_iconst (v := 2) cx dX6_listFault_3 (by decide) ?_
  refine v_callSpi (As := [.int x1, .int 0, .int 2]) cx (c_X6_in l g D cy  h) k_X6_51 (by decide) ⟨rfl, rfl⟩ (by decide) rfl rfl (Nat.le_of_ble_eq_true rfl) dX6_listFault_4 [] [0, 1, 2] (by decide) (vj_all 3 rfl (by decide +kernel)) rfl rfl rfl (fun r_1 h => ?_)
  refine v_if_eq (tgt := 14) cx dX6_listFault_7 (by decide) h (fun h => ?_) (fun h => ?_)
  · refine v_iconst (v := 1) cx dX6_listFault_14 (by decide) ?_
    refine p_X6_45 (ws' := [(q_t, .inr (6, [.ref q_t_m, .ref q_t_saved, .int t_savedCount, .ref q_t_text, .int t_textLength, .int 1, .int t_at, .ref q_t_read, .int t_number, .ref q_t_counts, .ref q_t_scores, .ref q_t_isIn, .ref q_t_order, .int t_ranked, .int t_emptySide, .ref q_t_row, .ref q_t_listing, .int t_listingLength, .long t_hash])), (q_t_read, .inl (cy 0, 40, .inl t_read)), (q_t_text, .inl (cy 0, 120, .inl t_text))]) cx dX6_listFault_15 0 rfl rfl rfl (Nat.le_of_ble_eq_true rfl) rfl ?_
    refine v_aload_n cx dX6_listFault_18 rfl 0 rfl ?_
    refine g_X6_45 cx dX6_listFault_19 0 rfl rfl ?_
    refine v_if_eq (tgt := 29) (P1 := False) (P2 := True) cx dX6_listFault_22 (by decide) (by decide) (fun z => z.elim) (fun _ => ?_)
    refine v_iconst (v := 0) cx dX6_listFault_25 (by decide) ?_
    refine v_goto (tgt := 46) cx dX6_listFault_26 (by decide) ?_
    exact v_ireturn cx rfl dX6_listFault_46 ⟨_, _, _, _, _, rfl, rfl, h⟩
  · refine v_iconst (v := 0) cx dX6_listFault_10 (by decide) ?_
    refine v_goto (tgt := 15) cx dX6_listFault_11 (by decide) ?_
    refine p_X6_45 (ws' := [(q_t, .inr (6, [.ref q_t_m, .ref q_t_saved, .int t_savedCount, .ref q_t_text, .int t_textLength, .int 0, .int t_at, .ref q_t_read, .int t_number, .ref q_t_counts, .ref q_t_scores, .ref q_t_isIn, .ref q_t_order, .int t_ranked, .int t_emptySide, .ref q_t_row, .ref q_t_listing, .int t_listingLength, .long t_hash])), (q_t_read, .inl (cy 0, 40, .inl t_read)), (q_t_text, .inl (cy 0, 120, .inl t_text))]) cx dX6_listFault_15 0 rfl rfl rfl (Nat.le_of_ble_eq_true rfl) rfl ?_
    refine v_aload_n cx dX6_listFault_18 rfl 0 rfl ?_
    refine g_X6_45 cx dX6_listFault_19 0 rfl rfl ?_
    refine v_if_eq (tgt := 29) (P1 := True) (P2 := False) cx dX6_listFault_22 (by decide) (by decide) (fun _ => ?_) (fun z => z.elim)
    refine v_aload_n cx dX6_listFault_29 rfl 0 rfl ?_
    refine v_iload_n cx dX6_listFault_30 rfl 1 rfl ?_
    refine v_callV (As := [.int x1]) cx (c_X6_readList l g D cy q_t q_t_m q_t_saved q_t_text q_t_read q_t_counts q_t_scores q_t_isIn q_t_order q_t_row q_t_listing h) k_X6_108 (by decide) (by decide) rfl rfl (Nat.le_of_ble_eq_true rfl) dX6_listFault_31 [0, 1, 2] [] (by decide) rfl rfl rfl (q0 := 0) rfl rfl (fun v9 w9 hp => ?_)
    refine Exists.elim hp fun r_2 hp => Exists.elim hp fun u_3 hp => Exists.elim hp fun u_4 hp => Exists.elim hp fun u_5 hp => ?_
    obtain ⟨rfl, rfl, h⟩ := hp
    refine v_afterJ (ws' := [(q_t, .inr (6, [.ref q_t_m, .ref q_t_saved, .int t_savedCount, .ref q_t_text, .int t_textLength, .int 0, .int u_3, .ref q_t_read, .int u_4, .ref q_t_counts, .ref q_t_scores, .ref q_t_isIn, .ref q_t_order, .int t_ranked, .int t_emptySide, .ref q_t_row, .ref q_t_listing, .int t_listingLength, .long t_hash])), (q_t_read, .inl (cy 0, 40, .inl u_5)), (q_t_text, .inl (cy 0, 120, .inl t_text))]) (st' := [.int r_2]) (ce := 0) (sl := 0) 3 [3, 4, 5] (by decide +kernel) (by decide +kernel) rfl rfl ⟨rfl, rfl⟩ ?_
    refine v_iconst (v := (-1)) cx dX6_listFault_34 (by decide) ?_
    refine v_icmp_ne (tgt := 45) cx dX6_listFault_35 (by decide) h (fun h => ?_) (fun h => ?_)
    · refine v_iconst (v := (-1)) cx dX6_listFault_45 (by decide) ?_
      exact v_ireturn cx rfl dX6_listFault_46 ⟨_, _, _, _, _, rfl, rfl, h⟩
    · refine v_aload_n cx dX6_listFault_38 rfl 0 rfl ?_
      refine g_X6_66 cx dX6_listFault_39 0 rfl rfl ?_
      refine v_goto (tgt := 46) cx dX6_listFault_42 (by decide) ?_
      exact v_ireturn cx rfl dX6_listFault_46 ⟨_, _, _, _, _, rfl, rfl, h⟩
abbrev rm_X6_variantFault : Room := { frames := 4, cells := 0, slots := 0, locals := 89 }
set_option maxHeartbeats 4000000 in
set_option maxRecDepth 100000 in
theorem c_X6_variantFault (l : Launch) (g : gT) (D : va_G) (cy : Nat → ClassId) (q_t q_t_m q_t_saved q_t_text q_t_read q_t_counts q_t_scores q_t_isIn q_t_order q_t_row q_t_listing : Nat) {t_savedCount : Int32} {t_textLength : Int32} {t_code : Int32} {t_at : Int32} {t_number : Int32} {t_ranked : Int32} {t_emptySide : Int32} {t_listingLength : Int32} {t_hash : Int64} {t_read : Nat → Int32} {t_text : Nat → Int32} {N : Nat} {Q : Int32 → Int32 → Int32 → Int32 → (Nat → Int32) → Prop} (h : p_X6_variantFault N t_savedCount t_textLength t_code t_at t_number t_ranked t_emptySide t_listingLength t_hash t_read t_text Q) : UC l yX6_variantFault cX6_variantFault 1 (some .int) rm_X6_variantFault g D cy [.ref q_t] [(q_t, .inr (6, [.ref q_t_m, .ref q_t_saved, .int t_savedCount, .ref q_t_text, .int t_textLength, .int t_code, .int t_at, .ref q_t_read, .int t_number, .ref q_t_counts, .ref q_t_scores, .ref q_t_isIn, .ref q_t_order, .int t_ranked, .int t_emptySide, .ref q_t_row, .ref q_t_listing, .int t_listingLength, .long t_hash])), (q_t_read, .inl (cy 0, 40, .inl t_read)), (q_t_text, .inl (cy 0, 120, .inl t_text))] (fun v w => ∃ (r : Int32) (t_code' : Int32) (t_at' : Int32) (t_number' : Int32) (t_read' : Nat → Int32), v = some (.int r) ∧ w = [(q_t, .inr (6, [.ref q_t_m, .ref q_t_saved, .int t_savedCount, .ref q_t_text, .int t_textLength, .int t_code', .int t_at', .ref q_t_read, .int t_number', .ref q_t_counts, .ref q_t_scores, .ref q_t_isIn, .ref q_t_order, .int t_ranked, .int t_emptySide, .ref q_t_row, .ref q_t_listing, .int t_listingLength, .long t_hash])), (q_t_read, .inl (cy 0, 40, .inl t_read')), (q_t_text, .inl (cy 0, 120, .inl t_text))] ∧ Q r t_code' t_at' t_number' t_read') := by
  refine UC_of (by decide +kernel) (Nat.le_of_ble_eq_true rfl) [(0, .ref q_t)] rfl (fun p e s m args below meth c A cx => ?_)
  unfold p_X6_variantFault at h
  refine v_aload_n cx dX6_variantFault_0 rfl 0 rfl ?_
  refine v_iconst (v := 0) cx dX6_variantFault_1 (by decide) ?_
  refine p_X6_45 (ws' := [(q_t, .inr (6, [.ref q_t_m, .ref q_t_saved, .int t_savedCount, .ref q_t_text, .int t_textLength, .int 0, .int t_at, .ref q_t_read, .int t_number, .ref q_t_counts, .ref q_t_scores, .ref q_t_isIn, .ref q_t_order, .int t_ranked, .int t_emptySide, .ref q_t_row, .ref q_t_listing, .int t_listingLength, .long t_hash])), (q_t_read, .inl (cy 0, 40, .inl t_read)), (q_t_text, .inl (cy 0, 120, .inl t_text))]) cx dX6_variantFault_2 0 rfl rfl rfl (Nat.le_of_ble_eq_true rfl) rfl ?_
  refine v_aload_n cx dX6_variantFault_5 rfl 0 rfl ?_
  refine v_callV (As := []) cx (c_X6_readVariant l g D cy q_t q_t_m q_t_saved q_t_text q_t_read q_t_counts q_t_scores q_t_isIn q_t_order q_t_row q_t_listing h) k_X6_112 (by decide) (by decide) rfl rfl (Nat.le_of_ble_eq_true rfl) dX6_variantFault_6 [0, 1, 2] [] (by decide) rfl rfl rfl (q0 := 0) rfl rfl (fun v9 w9 hp => ?_)
  refine Exists.elim hp fun r_1 hp => Exists.elim hp fun u_2 hp => Exists.elim hp fun u_3 hp => Exists.elim hp fun u_4 hp => ?_
  obtain ⟨rfl, rfl, h⟩ := hp
  refine v_afterJ (ws' := [(q_t, .inr (6, [.ref q_t_m, .ref q_t_saved, .int t_savedCount, .ref q_t_text, .int t_textLength, .int 0, .int u_2, .ref q_t_read, .int u_3, .ref q_t_counts, .ref q_t_scores, .ref q_t_isIn, .ref q_t_order, .int t_ranked, .int t_emptySide, .ref q_t_row, .ref q_t_listing, .int t_listingLength, .long t_hash])), (q_t_read, .inl (cy 0, 40, .inl u_4)), (q_t_text, .inl (cy 0, 120, .inl t_text))]) (st' := [.int r_1]) (ce := 0) (sl := 0) 3 [3, 4, 5] (by decide +kernel) (by decide +kernel) rfl rfl ⟨rfl, rfl⟩ ?_
  refine v_if_eq (tgt := 16) cx dX6_variantFault_9 (by decide) h (fun h => ?_) (fun h => ?_)
  · refine v_aload_n cx dX6_variantFault_16 rfl 0 rfl ?_
    refine g_X6_66 cx dX6_variantFault_17 0 rfl rfl ?_
    exact v_ireturn cx rfl dX6_variantFault_20 ⟨_, _, _, _, _, rfl, rfl, h⟩
  · refine v_iconst (v := (-1)) cx dX6_variantFault_12 (by decide) ?_
    refine v_goto (tgt := 20) cx dX6_variantFault_13 (by decide) ?_
    exact v_ireturn cx rfl dX6_variantFault_20 ⟨_, _, _, _, _, rfl, rfl, h⟩
abbrev rm_X6_takeList : Room := { frames := 6, cells := 0, slots := 0, locals := 136 }
set_option maxHeartbeats 4000000 in
set_option maxRecDepth 100000 in
theorem w_X6_takeList_69 {p : Program} {l : Launch} {e : Env} {s : State} {m : MethodId} {args : Array Value} {below : List Frame} {meth : Method} {c : Code} {Q9 : State → Prop} {mn : String} {Ts : List Cond} {D : va_G} {cy : Nat → ClassId} {g : gT} {A : Nat → Prop} (cx : vC p s m args meth c cX6_takeList 6 (some .int) RX6 mn Ts D cy g A) (q_t q_t_m q_t_saved q_t_text q_t_read q_t_counts q_t_scores q_t_isIn q_t_order q_t_row q_t_listing : Nat) {x1 : Int32} {x2 : Int32} {x3 : Int32} {x4 : Int32} {t_savedCount : Int32} {t_textLength : Int32} {t_code : Int32} {t_at : Int32} {t_number : Int32} {t_ranked : Int32} {t_emptySide : Int32} {t_listingLength : Int32} {t_hash : Int64} {t_read : Nat → Int32} {t_text : Nat → Int32} {t_saved : Nat → Int32} {N : Nat} {K106 : Int32 → (Nat → Int32) → Prop} (hK106 : ∀ (x5 : Int32) (t_m : Nat → Int32), K106 x5 t_m → vV p l e rm_X6_takeList s m args below meth c Q9 6 D A 0 0 [(q_t, .inr (6, [.ref q_t_m, .ref q_t_saved, .int t_savedCount, .ref q_t_text, .int t_textLength, .int t_code, .int t_at, .ref q_t_read, .int t_number, .ref q_t_counts, .ref q_t_scores, .ref q_t_isIn, .ref q_t_order, .int t_ranked, .int t_emptySide, .ref q_t_row, .ref q_t_listing, .int t_listingLength, .long t_hash])), (q_t_read, .inl (cy 0, 40, .inl t_read)), (q_t_text, .inl (cy 0, 120, .inl t_text)), (q_t_m, .inl (cy 0, 378, .inl t_m)), (q_t_saved, .inl (cy 0, 1512, .inl t_saved))] 106 [(0, .ref q_t), (1, .int x1), (2, .int x2), (3, .int x3), (4, .int x4), (5, .int x5)] []) : ∀ (n : Nat) (x5 : Int32) (t_m : Nat → Int32), p_X6_takeList_69 N x1 x2 x3 x4 t_savedCount t_textLength t_code t_at t_number t_ranked t_emptySide t_listingLength t_hash t_read t_text t_saved K106 n x5 t_m → vV p l e rm_X6_takeList s m args below meth c Q9 6 D A 0 0 [(q_t, .inr (6, [.ref q_t_m, .ref q_t_saved, .int t_savedCount, .ref q_t_text, .int t_textLength, .int t_code, .int t_at, .ref q_t_read, .int t_number, .ref q_t_counts, .ref q_t_scores, .ref q_t_isIn, .ref q_t_order, .int t_ranked, .int t_emptySide, .ref q_t_row, .ref q_t_listing, .int t_listingLength, .long t_hash])), (q_t_read, .inl (cy 0, 40, .inl t_read)), (q_t_text, .inl (cy 0, 120, .inl t_text)), (q_t_m, .inl (cy 0, 378, .inl t_m)), (q_t_saved, .inl (cy 0, 1512, .inl t_saved))] 69 [(0, .ref q_t), (1, .int x1), (2, .int x2), (3, .int x3), (4, .int x4), (5, .int x5)] [] := by
  intro n
  induction n with
  | zero => intro x5 t_m h; exact False.elim h
  | succ n ih =>
    intro x5 t_m h
    unfold p_X6_takeList_69 at h
    refine v_iload cx dX6_takeList_69 5 rfl ?_
    refine v_bipush (v := 40) cx dX6_takeList_71 (by decide) ?_
    refine v_icmp_ge (tgt := 106) cx dX6_takeList_73 (by decide) h (fun h => ?_) (fun h => ?_)
    · refine v_lv (lv' := [(0, .ref q_t), (1, .int x1), (2, .int x2), (3, .int x3), (4, .int x4), (5, .int x5)]) [0, 1, 2, 3, 4, 5] rfl ?_
      exact hK106 _ _ h
    · refine v_aload_n cx dX6_takeList_76 rfl 0 rfl ?_
      refine g_X6_7 cx dX6_takeList_77 0 rfl rfl ?_
      refine v_sipush (v := 138) cx dX6_takeList_80 (by decide) ?_
      refine v_bipush (v := 40) cx dX6_takeList_83 (by decide) ?_
      refine v_iload cx dX6_takeList_85 4 rfl ?_
      refine v_imul cx dX6_takeList_87 ?_
      refine v_iadd cx dX6_takeList_88 ?_
      refine v_iload cx dX6_takeList_89 5 rfl ?_
      refine v_iadd cx dX6_takeList_91 ?_
      refine v_aload_n cx dX6_takeList_92 rfl 0 rfl ?_
      refine g_X6_19 cx dX6_takeList_93 0 rfl rfl ?_
      refine v_iload cx dX6_takeList_96 5 rfl ?_
      refine v_iald cx dX6_takeList_98 1 rfl h (fun h => ?_)
      refine v_iast (ws' := [(q_t, .inr (6, [.ref q_t_m, .ref q_t_saved, .int t_savedCount, .ref q_t_text, .int t_textLength, .int t_code, .int t_at, .ref q_t_read, .int t_number, .ref q_t_counts, .ref q_t_scores, .ref q_t_isIn, .ref q_t_order, .int t_ranked, .int t_emptySide, .ref q_t_row, .ref q_t_listing, .int t_listingLength, .long t_hash])), (q_t_read, .inl (cy 0, 40, .inl t_read)), (q_t_text, .inl (cy 0, 120, .inl t_text)), (q_t_m, .inl (cy 0, 378, .inl (upd t_m (((138 + (40 * x4)) + x5).toNatClampNeg) (t_read x5.toNatClampNeg)))), (q_t_saved, .inl (cy 0, 1512, .inl t_saved))]) cx dX6_takeList_99 3 rfl h rfl (fun h => ?_)
      refine v_iinc (v := x5 + 1) (k0 := 5) (lv' := [(5, .int (x5 + 1)), (0, .ref q_t), (1, .int x1), (2, .int x2), (3, .int x3), (4, .int x4)]) cx dX6_takeList_100 rfl rfl (by decide) rfl ?_
      refine v_goto (tgt := 69) cx dX6_takeList_103 (by decide) ?_
      refine v_lv (lv' := [(0, .ref q_t), (1, .int x1), (2, .int x2), (3, .int x3), (4, .int x4), (5, .int (x5 + 1))]) [1, 2, 3, 4, 5, 0] rfl ?_
      exact ih _ _ h
set_option maxHeartbeats 4000000 in
set_option maxRecDepth 100000 in
theorem c_X6_takeList (l : Launch) (g : gT) (D : va_G) (cy : Nat → ClassId) (q_t q_t_m q_t_saved q_t_text q_t_read q_t_counts q_t_scores q_t_isIn q_t_order q_t_row q_t_listing : Nat) {t_savedCount : Int32} {t_textLength : Int32} {t_code : Int32} {t_at : Int32} {t_number : Int32} {t_ranked : Int32} {t_emptySide : Int32} {t_listingLength : Int32} {t_hash : Int64} {t_read : Nat → Int32} {t_text : Nat → Int32} {t_m : Nat → Int32} {t_saved : Nat → Int32} {x1 : Int32} {x2 : Int32} {N : Nat} {Q : Int32 → Int32 → Int32 → Int32 → Int32 → (Nat → Int32) → (Nat → Int32) → (Nat → Int32) → Prop} (h : p_X6_takeList N t_savedCount t_textLength t_code t_at t_number t_ranked t_emptySide t_listingLength t_hash t_read t_text t_m t_saved x1 x2 Q) : UC l yX6_takeList cX6_takeList 6 (some .int) rm_X6_takeList g D cy [.ref q_t, .int x1, .int x2] [(q_t, .inr (6, [.ref q_t_m, .ref q_t_saved, .int t_savedCount, .ref q_t_text, .int t_textLength, .int t_code, .int t_at, .ref q_t_read, .int t_number, .ref q_t_counts, .ref q_t_scores, .ref q_t_isIn, .ref q_t_order, .int t_ranked, .int t_emptySide, .ref q_t_row, .ref q_t_listing, .int t_listingLength, .long t_hash])), (q_t_read, .inl (cy 0, 40, .inl t_read)), (q_t_text, .inl (cy 0, 120, .inl t_text)), (q_t_m, .inl (cy 0, 378, .inl t_m)), (q_t_saved, .inl (cy 0, 1512, .inl t_saved))] (fun v w => ∃ (r : Int32) (t_savedCount' : Int32) (t_code' : Int32) (t_at' : Int32) (t_number' : Int32) (t_read' : Nat → Int32) (t_m' : Nat → Int32) (t_saved' : Nat → Int32), v = some (.int r) ∧ w = [(q_t, .inr (6, [.ref q_t_m, .ref q_t_saved, .int t_savedCount', .ref q_t_text, .int t_textLength, .int t_code', .int t_at', .ref q_t_read, .int t_number', .ref q_t_counts, .ref q_t_scores, .ref q_t_isIn, .ref q_t_order, .int t_ranked, .int t_emptySide, .ref q_t_row, .ref q_t_listing, .int t_listingLength, .long t_hash])), (q_t_read, .inl (cy 0, 40, .inl t_read')), (q_t_text, .inl (cy 0, 120, .inl t_text)), (q_t_m, .inl (cy 0, 378, .inl t_m')), (q_t_saved, .inl (cy 0, 1512, .inl t_saved'))] ∧ Q r t_savedCount' t_code' t_at' t_number' t_read' t_m' t_saved') := by
  refine UC_of (by decide +kernel) (Nat.le_of_ble_eq_true rfl) [(0, .ref q_t), (1, .int x1), (2, .int x2)] rfl (fun p e s m args below meth c A cx => ?_)
  unfold p_X6_takeList at h
  refine v_aload_n cx dX6_takeList_0 rfl 0 rfl ?_
  refine v_iload_n cx dX6_takeList_1 rfl 1 rfl ?_
  refine v_iload_n cx dX6_takeList_2 rfl 2 rfl ?_
  refine v_callSpi (As := [.int x1, .int x2]) cx (c_X6_isList l g D cy  h) k_X6_55 (by decide) ⟨rfl, rfl⟩ (by decide) rfl rfl (Nat.le_of_ble_eq_true rfl) dX6_takeList_3 [] [0, 1, 2, 3, 4] (by decide) (vj_all 5 rfl (by decide +kernel)) rfl rfl rfl (fun r_1 h => ?_)
  refine v_if_eq (tgt := 13) cx dX6_takeList_6 (by decide) h (fun h => ?_) (fun h => ?_)
  · refine v_iconst (v := 1) cx dX6_takeList_13 (by decide) ?_
    refine p_X6_45 (ws' := [(q_t, .inr (6, [.ref q_t_m, .ref q_t_saved, .int t_savedCount, .ref q_t_text, .int t_textLength, .int 1, .int t_at, .ref q_t_read, .int t_number, .ref q_t_counts, .ref q_t_scores, .ref q_t_isIn, .ref q_t_order, .int t_ranked, .int t_emptySide, .ref q_t_row, .ref q_t_listing, .int t_listingLength, .long t_hash])), (q_t_read, .inl (cy 0, 40, .inl t_read)), (q_t_text, .inl (cy 0, 120, .inl t_text)), (q_t_m, .inl (cy 0, 378, .inl t_m)), (q_t_saved, .inl (cy 0, 1512, .inl t_saved))]) cx dX6_takeList_14 0 rfl rfl rfl (Nat.le_of_ble_eq_true rfl) rfl ?_
    refine v_aload_n cx dX6_takeList_17 rfl 0 rfl ?_
    refine g_X6_45 cx dX6_takeList_18 0 rfl rfl ?_
    refine v_if_eq (tgt := 26) (P1 := False) (P2 := True) cx dX6_takeList_21 (by decide) (by decide) (fun z => z.elim) (fun _ => ?_)
    refine v_iconst (v := 0) cx dX6_takeList_24 (by decide) ?_
    exact v_ireturn cx rfl dX6_takeList_25 ⟨_, _, _, _, _, _, _, _, rfl, rfl, h⟩
  · refine v_iconst (v := 0) cx dX6_takeList_9 (by decide) ?_
    refine v_goto (tgt := 14) cx dX6_takeList_10 (by decide) ?_
    refine p_X6_45 (ws' := [(q_t, .inr (6, [.ref q_t_m, .ref q_t_saved, .int t_savedCount, .ref q_t_text, .int t_textLength, .int 0, .int t_at, .ref q_t_read, .int t_number, .ref q_t_counts, .ref q_t_scores, .ref q_t_isIn, .ref q_t_order, .int t_ranked, .int t_emptySide, .ref q_t_row, .ref q_t_listing, .int t_listingLength, .long t_hash])), (q_t_read, .inl (cy 0, 40, .inl t_read)), (q_t_text, .inl (cy 0, 120, .inl t_text)), (q_t_m, .inl (cy 0, 378, .inl t_m)), (q_t_saved, .inl (cy 0, 1512, .inl t_saved))]) cx dX6_takeList_14 0 rfl rfl rfl (Nat.le_of_ble_eq_true rfl) rfl ?_
    refine v_aload_n cx dX6_takeList_17 rfl 0 rfl ?_
    refine g_X6_45 cx dX6_takeList_18 0 rfl rfl ?_
    refine v_if_eq (tgt := 26) (P1 := True) (P2 := False) cx dX6_takeList_21 (by decide) (by decide) (fun _ => ?_) (fun z => z.elim)
    refine v_aload_n cx dX6_takeList_26 rfl 0 rfl ?_
    refine v_iload_n cx dX6_takeList_27 rfl 2 rfl ?_
    refine v_callV (As := [.int x2]) cx (c_X6_readList l g D cy q_t q_t_m q_t_saved q_t_text q_t_read q_t_counts q_t_scores q_t_isIn q_t_order q_t_row q_t_listing h) k_X6_108 (by decide) (by decide) rfl rfl (Nat.le_of_ble_eq_true rfl) dX6_takeList_28 [0, 1, 2] [3, 4] (by decide) rfl rfl rfl (q0 := 0) rfl rfl (fun v9 w9 hp => ?_)
    refine Exists.elim hp fun r_2 hp => Exists.elim hp fun u_3 hp => Exists.elim hp fun u_4 hp => Exists.elim hp fun u_5 hp => ?_
    obtain ⟨rfl, rfl, h⟩ := hp
    refine v_afterJ (ws' := [(q_t, .inr (6, [.ref q_t_m, .ref q_t_saved, .int t_savedCount, .ref q_t_text, .int t_textLength, .int 0, .int u_3, .ref q_t_read, .int u_4, .ref q_t_counts, .ref q_t_scores, .ref q_t_isIn, .ref q_t_order, .int t_ranked, .int t_emptySide, .ref q_t_row, .ref q_t_listing, .int t_listingLength, .long t_hash])), (q_t_read, .inl (cy 0, 40, .inl u_5)), (q_t_text, .inl (cy 0, 120, .inl t_text)), (q_t_m, .inl (cy 0, 378, .inl t_m)), (q_t_saved, .inl (cy 0, 1512, .inl t_saved))]) (st' := [.int r_2]) (ce := 0) (sl := 0) 5 [5, 6, 7, 3, 4] (by decide +kernel) (by decide +kernel) rfl rfl ⟨rfl, rfl⟩ ?_
    refine v_istore_n (lv' := [(3, .int r_2), (0, .ref q_t), (1, .int x1), (2, .int x2)]) cx dX6_takeList_31 rfl (by decide) rfl ?_
    refine v_iload_n cx dX6_takeList_32 rfl 0 rfl ?_
    refine v_iconst (v := (-1)) cx dX6_takeList_33 (by decide) ?_
    refine v_icmp_ne (tgt := 45) cx dX6_takeList_34 (by decide) h (fun h => ?_) (fun h => ?_)
    · refine v_aload_n cx dX6_takeList_45 rfl 1 rfl ?_
      refine v_callV (As := []) cx (c_X6_keep l g D cy q_t q_t_m q_t_saved q_t_text q_t_read q_t_counts q_t_scores q_t_isIn q_t_order q_t_row q_t_listing h) k_X6_115 (by decide) (by decide) rfl rfl (Nat.le_of_ble_eq_true rfl) dX6_takeList_46 [0, 3, 4] [1, 2] (by decide) rfl rfl rfl (q0 := 0) rfl rfl (fun v9 w9 hp => ?_)
      obtain ⟨u_6, u_7, rfl, rfl, h⟩ := hp
      refine v_afterJ (ws' := [(q_t, .inr (6, [.ref q_t_m, .ref q_t_saved, .int u_6, .ref q_t_text, .int t_textLength, .int 0, .int u_3, .ref q_t_read, .int u_4, .ref q_t_counts, .ref q_t_scores, .ref q_t_isIn, .ref q_t_order, .int t_ranked, .int t_emptySide, .ref q_t_row, .ref q_t_listing, .int t_listingLength, .long t_hash])), (q_t_read, .inl (cy 0, 40, .inl u_5)), (q_t_text, .inl (cy 0, 120, .inl t_text)), (q_t_m, .inl (cy 0, 378, .inl t_m)), (q_t_saved, .inl (cy 0, 1512, .inl u_7))]) (st' := []) (ce := 0) (sl := 0) 5 [5, 1, 2, 6, 7] (by decide +kernel) (by decide +kernel) rfl rfl ⟨rfl, rfl⟩ ?_
      refine v_iload_n cx dX6_takeList_49 rfl 2 rfl ?_
      refine v_iload_n cx dX6_takeList_50 rfl 3 rfl ?_
      refine v_callSpi (As := [.int x1, .int x2]) cx (c_X6_listOf l g D cy  h) k_X6_59 (by decide) ⟨rfl, rfl⟩ (by decide) rfl rfl (Nat.le_of_ble_eq_true rfl) dX6_takeList_51 [] [0, 1, 2, 3, 4] (by decide) (vj_all 5 rfl (by decide +kernel)) rfl rfl rfl (fun r_8 h => ?_)
      refine v_istore (lv' := [(4, .int r_8), (3, .int r_2), (0, .ref q_t), (1, .int x1), (2, .int x2)]) cx dX6_takeList_54 (by decide) rfl ?_
      refine v_aload_n cx dX6_takeList_56 rfl 2 rfl ?_
      refine g_X6_7 cx dX6_takeList_57 0 rfl rfl ?_
      refine v_iconst (v := 4) cx dX6_takeList_60 (by decide) ?_
      refine v_iload cx dX6_takeList_61 0 rfl ?_
      refine v_iadd cx dX6_takeList_63 ?_
      refine v_iload_n cx dX6_takeList_64 rfl 1 rfl ?_
      refine v_iast (ws' := [(q_t, .inr (6, [.ref q_t_m, .ref q_t_saved, .int u_6, .ref q_t_text, .int t_textLength, .int 0, .int u_3, .ref q_t_read, .int u_4, .ref q_t_counts, .ref q_t_scores, .ref q_t_isIn, .ref q_t_order, .int t_ranked, .int t_emptySide, .ref q_t_row, .ref q_t_listing, .int t_listingLength, .long t_hash])), (q_t_read, .inl (cy 0, 40, .inl u_5)), (q_t_text, .inl (cy 0, 120, .inl t_text)), (q_t_m, .inl (cy 0, 378, .inl (upd t_m ((4 + r_8).toNatClampNeg) r_2))), (q_t_saved, .inl (cy 0, 1512, .inl u_7))]) cx dX6_takeList_65 3 rfl h rfl (fun h => ?_)
      refine v_iconst (v := 0) cx dX6_takeList_66 (by decide) ?_
      refine v_istore (lv' := [(5, .int 0), (4, .int r_8), (3, .int r_2), (0, .ref q_t), (1, .int x1), (2, .int x2)]) cx dX6_takeList_67 (by decide) rfl ?_
      refine v_lv (lv' := [(0, .ref q_t), (1, .int x1), (2, .int x2), (3, .int r_2), (4, .int r_8), (5, .int 0)]) [3, 4, 5, 2, 1, 0] rfl ?_
      refine w_X6_takeList_69 cx q_t q_t_m q_t_saved q_t_text q_t_read q_t_counts q_t_scores q_t_isIn q_t_order q_t_row q_t_listing ?_ N _ _ h
      · intro x5_9 t_m_10 h
        refine v_iload_n cx dX6_takeList_106 rfl 3 rfl ?_
        exact v_ireturn cx rfl dX6_takeList_107 ⟨_, _, _, _, _, _, _, _, rfl, rfl, h⟩
    · refine v_bipush (v := (-10)) cx dX6_takeList_37 (by decide) ?_
      refine v_aload_n cx dX6_takeList_39 rfl 1 rfl ?_
      refine g_X6_66 cx dX6_takeList_40 0 rfl rfl ?_
      refine v_isub cx dX6_takeList_43 ?_
      exact v_ireturn cx rfl dX6_takeList_44 ⟨_, _, _, _, _, _, _, _, rfl, rfl, h⟩
abbrev rm_X6_isThere : Room := { frames := 1, cells := 0, slots := 0, locals := 22 }
set_option maxHeartbeats 4000000 in
set_option maxRecDepth 100000 in
theorem w_X6_isThere_19 {p : Program} {l : Launch} {e : Env} {s : State} {m : MethodId} {args : Array Value} {below : List Frame} {meth : Method} {c : Code} {Q9 : State → Prop} {mn : String} {Ts : List Cond} {D : va_G} {cy : Nat → ClassId} {g : gT} {A : Nat → Prop} (cx : vC p s m args meth c cX6_isThere 5 (some .boolean) RX6 mn Ts D cy g A) (q_t q_t_m q_t_saved q_t_text q_t_read q_t_counts q_t_scores q_t_isIn q_t_order q_t_row q_t_listing : Nat) {x1 : Int32} {x2 : Int32} {t_savedCount : Int32} {t_textLength : Int32} {t_code : Int32} {t_at : Int32} {t_number : Int32} {t_ranked : Int32} {t_emptySide : Int32} {t_listingLength : Int32} {t_hash : Int64} {t_m : Nat → Int32} {t_read : Nat → Int32} {N : Nat} {K59 : Int32 → Int32 → Prop} (hK59 : ∀ (x3 : Int32) (x4 : Int32), K59 x3 x4 → vV p l e rm_X6_isThere s m args below meth c Q9 5 D A 0 0 [(q_t, .inr (6, [.ref q_t_m, .ref q_t_saved, .int t_savedCount, .ref q_t_text, .int t_textLength, .int t_code, .int t_at, .ref q_t_read, .int t_number, .ref q_t_counts, .ref q_t_scores, .ref q_t_isIn, .ref q_t_order, .int t_ranked, .int t_emptySide, .ref q_t_row, .ref q_t_listing, .int t_listingLength, .long t_hash])), (q_t_m, .inl (cy 0, 378, .inl t_m)), (q_t_read, .inl (cy 0, 40, .inl t_read))] 59 [(0, .ref q_t), (1, .int x1), (2, .int x2), (3, .int x3), (4, .int x4)] []) : ∀ (n : Nat) (x3 : Int32) (x4 : Int32), p_X6_isThere_19 N x1 x2 t_savedCount t_textLength t_code t_at t_number t_ranked t_emptySide t_listingLength t_hash t_m t_read K59 n x3 x4 → vV p l e rm_X6_isThere s m args below meth c Q9 5 D A 0 0 [(q_t, .inr (6, [.ref q_t_m, .ref q_t_saved, .int t_savedCount, .ref q_t_text, .int t_textLength, .int t_code, .int t_at, .ref q_t_read, .int t_number, .ref q_t_counts, .ref q_t_scores, .ref q_t_isIn, .ref q_t_order, .int t_ranked, .int t_emptySide, .ref q_t_row, .ref q_t_listing, .int t_listingLength, .long t_hash])), (q_t_m, .inl (cy 0, 378, .inl t_m)), (q_t_read, .inl (cy 0, 40, .inl t_read))] 19 [(0, .ref q_t), (1, .int x1), (2, .int x2), (3, .int x3), (4, .int x4)] [] := by
  intro n
  induction n with
  | zero => intro x3 x4 h; exact False.elim h
  | succ n ih =>
    intro x3 x4 h
    unfold p_X6_isThere_19 at h
    refine v_iload cx dX6_isThere_19 4 rfl ?_
    refine v_bipush (v := 6) cx dX6_isThere_21 (by decide) ?_
    refine v_icmp_ge (tgt := 59) cx dX6_isThere_23 (by decide) h (fun h => ?_) (fun h => ?_)
    · refine v_lv (lv' := [(0, .ref q_t), (1, .int x1), (2, .int x2), (3, .int x3), (4, .int x4)]) [0, 1, 2, 3, 4] rfl ?_
      exact hK59 _ _ h
    · refine v_iload_n cx dX6_isThere_26 rfl 3 rfl ?_
      refine v_if_eq (tgt := 51) cx dX6_isThere_27 (by decide) h (fun h => ?_) (fun h => ?_)
      · refine v_iconst (v := 0) cx dX6_isThere_51 (by decide) ?_
        refine v_istore_n (lv' := [(3, .int 0), (0, .ref q_t), (1, .int x1), (2, .int x2), (4, .int x4)]) cx dX6_isThere_52 rfl (by decide) rfl ?_
        refine v_iinc (v := x4 + 1) (k0 := 4) (lv' := [(4, .int (x4 + 1)), (3, .int 0), (0, .ref q_t), (1, .int x1), (2, .int x2)]) cx dX6_isThere_53 rfl rfl (by decide) rfl ?_
        refine v_goto (tgt := 19) cx dX6_isThere_56 (by decide) ?_
        refine v_lv (lv' := [(0, .ref q_t), (1, .int x1), (2, .int x2), (3, .int 0), (4, .int (x4 + 1))]) [2, 3, 4, 1, 0] rfl ?_
        exact ih _ _ h
      · refine v_aload_n cx dX6_isThere_30 rfl 0 rfl ?_
        refine v_iload_n cx dX6_isThere_31 rfl 2 rfl ?_
        refine v_iload cx dX6_isThere_32 4 rfl ?_
        refine v_callVpi (As := [.int x2, .int x4]) cx (c_X6_of l g D cy q_t q_t_m q_t_saved q_t_text q_t_read q_t_counts q_t_scores q_t_isIn q_t_order q_t_row q_t_listing h) k_X6_118 (by decide) ⟨rfl, rfl⟩ (by decide) rfl rfl (Nat.le_of_ble_eq_true rfl) dX6_isThere_34 [0, 1] [2] (by decide) (vj_all 3 rfl (by decide +kernel)) rfl rfl rfl (q0 := 0) rfl rfl (fun r_1 h => ?_)
        refine v_aload_n cx dX6_isThere_37 rfl 0 rfl ?_
        refine g_X6_19 cx dX6_isThere_38 0 rfl rfl ?_
        refine v_iload cx dX6_isThere_41 4 rfl ?_
        refine v_iald cx dX6_isThere_43 2 rfl h (fun h => ?_)
        refine v_icmp_ne (tgt := 51) cx dX6_isThere_44 (by decide) h (fun h => ?_) (fun h => ?_)
        · refine v_iconst (v := 0) cx dX6_isThere_51 (by decide) ?_
          refine v_istore_n (lv' := [(3, .int 0), (0, .ref q_t), (1, .int x1), (2, .int x2), (4, .int x4)]) cx dX6_isThere_52 rfl (by decide) rfl ?_
          refine v_iinc (v := x4 + 1) (k0 := 4) (lv' := [(4, .int (x4 + 1)), (3, .int 0), (0, .ref q_t), (1, .int x1), (2, .int x2)]) cx dX6_isThere_53 rfl rfl (by decide) rfl ?_
          refine v_goto (tgt := 19) cx dX6_isThere_56 (by decide) ?_
          refine v_lv (lv' := [(0, .ref q_t), (1, .int x1), (2, .int x2), (3, .int 0), (4, .int (x4 + 1))]) [2, 3, 4, 1, 0] rfl ?_
          exact ih _ _ h
        · refine v_iconst (v := 1) cx dX6_isThere_47 (by decide) ?_
          refine v_goto (tgt := 52) cx dX6_isThere_48 (by decide) ?_
          refine v_istore_n (lv' := [(3, .int 1), (0, .ref q_t), (1, .int x1), (2, .int x2), (4, .int x4)]) cx dX6_isThere_52 rfl (by decide) rfl ?_
          refine v_iinc (v := x4 + 1) (k0 := 4) (lv' := [(4, .int (x4 + 1)), (3, .int 1), (0, .ref q_t), (1, .int x1), (2, .int x2)]) cx dX6_isThere_53 rfl rfl (by decide) rfl ?_
          refine v_goto (tgt := 19) cx dX6_isThere_56 (by decide) ?_
          refine v_lv (lv' := [(0, .ref q_t), (1, .int x1), (2, .int x2), (3, .int 1), (4, .int (x4 + 1))]) [2, 3, 4, 1, 0] rfl ?_
          exact ih _ _ h
set_option maxHeartbeats 4000000 in
set_option maxRecDepth 100000 in
theorem w_X6_isThere_4 {p : Program} {l : Launch} {e : Env} {s : State} {m : MethodId} {args : Array Value} {below : List Frame} {meth : Method} {c : Code} {Q9 : State → Prop} {mn : String} {Ts : List Cond} {D : va_G} {cy : Nat → ClassId} {g : gT} {A : Nat → Prop} (cx : vC p s m args meth c cX6_isThere 5 (some .boolean) RX6 mn Ts D cy g A) (q_t q_t_m q_t_saved q_t_text q_t_read q_t_counts q_t_scores q_t_isIn q_t_order q_t_row q_t_listing : Nat) {t_savedCount : Int32} {t_textLength : Int32} {t_code : Int32} {t_at : Int32} {t_number : Int32} {t_ranked : Int32} {t_emptySide : Int32} {t_listingLength : Int32} {t_hash : Int64} {t_m : Nat → Int32} {t_read : Nat → Int32} {N : Nat} {K79 : Int32 → Int32 → Prop} (hK79 : ∀ (x1 : Int32) (x2 : Int32), K79 x1 x2 → vV p l e rm_X6_isThere s m args below meth c Q9 5 D A 0 0 [(q_t, .inr (6, [.ref q_t_m, .ref q_t_saved, .int t_savedCount, .ref q_t_text, .int t_textLength, .int t_code, .int t_at, .ref q_t_read, .int t_number, .ref q_t_counts, .ref q_t_scores, .ref q_t_isIn, .ref q_t_order, .int t_ranked, .int t_emptySide, .ref q_t_row, .ref q_t_listing, .int t_listingLength, .long t_hash])), (q_t_m, .inl (cy 0, 378, .inl t_m)), (q_t_read, .inl (cy 0, 40, .inl t_read))] 79 [(0, .ref q_t), (1, .int x1), (2, .int x2)] []) : ∀ (n : Nat) (x1 : Int32) (x2 : Int32), p_X6_isThere_4 N t_savedCount t_textLength t_code t_at t_number t_ranked t_emptySide t_listingLength t_hash t_m t_read K79 n x1 x2 → vV p l e rm_X6_isThere s m args below meth c Q9 5 D A 0 0 [(q_t, .inr (6, [.ref q_t_m, .ref q_t_saved, .int t_savedCount, .ref q_t_text, .int t_textLength, .int t_code, .int t_at, .ref q_t_read, .int t_number, .ref q_t_counts, .ref q_t_scores, .ref q_t_isIn, .ref q_t_order, .int t_ranked, .int t_emptySide, .ref q_t_row, .ref q_t_listing, .int t_listingLength, .long t_hash])), (q_t_m, .inl (cy 0, 378, .inl t_m)), (q_t_read, .inl (cy 0, 40, .inl t_read))] 4 [(0, .ref q_t), (1, .int x1), (2, .int x2)] [] := by
  intro n
  induction n with
  | zero => intro x1 x2 h; exact False.elim h
  | succ n ih =>
    intro x1 x2 h
    unfold p_X6_isThere_4 at h
    refine v_iload_n cx dX6_isThere_4 rfl 2 rfl ?_
    refine v_aload_n cx dX6_isThere_5 rfl 0 rfl ?_
    refine g_X6_7 cx dX6_isThere_6 0 rfl rfl ?_
    refine v_iconst (v := 0) cx dX6_isThere_9 (by decide) ?_
    refine v_iald cx dX6_isThere_10 1 rfl ⟨by unfold vp_in; decide, h⟩ (fun h => ?_)
    refine v_icmp_ge (tgt := 79) cx dX6_isThere_11 (by decide) h (fun h => ?_) (fun h => ?_)
    · refine v_lv (lv' := [(0, .ref q_t), (1, .int x1), (2, .int x2)]) [0, 1, 2] rfl ?_
      exact hK79 _ _ h
    · refine v_iconst (v := 1) cx dX6_isThere_14 (by decide) ?_
      refine v_istore_n (lv' := [(3, .int 1), (0, .ref q_t), (1, .int x1), (2, .int x2)]) cx dX6_isThere_15 rfl (by decide) rfl ?_
      refine v_iconst (v := 0) cx dX6_isThere_16 (by decide) ?_
      refine v_istore (lv' := [(4, .int 0), (3, .int 1), (0, .ref q_t), (1, .int x1), (2, .int x2)]) cx dX6_isThere_17 (by decide) rfl ?_
      refine v_lv (lv' := [(0, .ref q_t), (1, .int x1), (2, .int x2), (3, .int 1), (4, .int 0)]) [2, 3, 4, 1, 0] rfl ?_
      refine w_X6_isThere_19 cx q_t q_t_m q_t_saved q_t_text q_t_read q_t_counts q_t_scores q_t_isIn q_t_order q_t_row q_t_listing ?_ N _ _ h
      · intro x3_2 x4_3 h
        refine v_iload_n cx dX6_isThere_59 rfl 1 rfl ?_
        refine v_if_ne (tgt := 67) cx dX6_isThere_60 (by decide) h (fun h => ?_) (fun h => ?_)
        · refine v_iconst (v := 1) cx dX6_isThere_67 (by decide) ?_
          refine v_goto (tgt := 72) cx dX6_isThere_68 (by decide) ?_
          refine v_istore_n (lv' := [(1, .int 1), (0, .ref q_t), (2, .int x2), (3, .int x3_2), (4, .int x4_3)]) cx dX6_isThere_72 rfl (by decide) rfl ?_
          refine v_iinc (v := x2 + 1) (k0 := 2) (lv' := [(2, .int (x2 + 1)), (1, .int 1), (0, .ref q_t), (3, .int x3_2), (4, .int x4_3)]) cx dX6_isThere_73 rfl rfl (by decide) rfl ?_
          refine v_goto (tgt := 4) cx dX6_isThere_76 (by decide) ?_
          refine v_lv (lv' := [(0, .ref q_t), (1, .int 1), (2, .int (x2 + 1))]) [2, 1, 0] rfl ?_
          exact ih _ _ h
        · refine v_iload_n cx dX6_isThere_63 rfl 3 rfl ?_
          refine v_if_eq (tgt := 71) cx dX6_isThere_64 (by decide) h (fun h => ?_) (fun h => ?_)
          · refine v_iconst (v := 0) cx dX6_isThere_71 (by decide) ?_
            refine v_istore_n (lv' := [(1, .int 0), (0, .ref q_t), (2, .int x2), (3, .int x3_2), (4, .int x4_3)]) cx dX6_isThere_72 rfl (by decide) rfl ?_
            refine v_iinc (v := x2 + 1) (k0 := 2) (lv' := [(2, .int (x2 + 1)), (1, .int 0), (0, .ref q_t), (3, .int x3_2), (4, .int x4_3)]) cx dX6_isThere_73 rfl rfl (by decide) rfl ?_
            refine v_goto (tgt := 4) cx dX6_isThere_76 (by decide) ?_
            refine v_lv (lv' := [(0, .ref q_t), (1, .int 0), (2, .int (x2 + 1))]) [2, 1, 0] rfl ?_
            exact ih _ _ h
          · refine v_iconst (v := 1) cx dX6_isThere_67 (by decide) ?_
            refine v_goto (tgt := 72) cx dX6_isThere_68 (by decide) ?_
            refine v_istore_n (lv' := [(1, .int 1), (0, .ref q_t), (2, .int x2), (3, .int x3_2), (4, .int x4_3)]) cx dX6_isThere_72 rfl (by decide) rfl ?_
            refine v_iinc (v := x2 + 1) (k0 := 2) (lv' := [(2, .int (x2 + 1)), (1, .int 1), (0, .ref q_t), (3, .int x3_2), (4, .int x4_3)]) cx dX6_isThere_73 rfl rfl (by decide) rfl ?_
            refine v_goto (tgt := 4) cx dX6_isThere_76 (by decide) ?_
            refine v_lv (lv' := [(0, .ref q_t), (1, .int 1), (2, .int (x2 + 1))]) [2, 1, 0] rfl ?_
            exact ih _ _ h
set_option maxHeartbeats 4000000 in
set_option maxRecDepth 100000 in
theorem c_X6_isThere (l : Launch) (g : gT) (D : va_G) (cy : Nat → ClassId) (q_t q_t_m q_t_saved q_t_text q_t_read q_t_counts q_t_scores q_t_isIn q_t_order q_t_row q_t_listing : Nat) {t_savedCount : Int32} {t_textLength : Int32} {t_code : Int32} {t_at : Int32} {t_number : Int32} {t_ranked : Int32} {t_emptySide : Int32} {t_listingLength : Int32} {t_hash : Int64} {t_m : Nat → Int32} {t_read : Nat → Int32} {N : Nat} {Q : Int32 → Prop} (h : p_X6_isThere N t_savedCount t_textLength t_code t_at t_number t_ranked t_emptySide t_listingLength t_hash t_m t_read Q) : UC l yX6_isThere cX6_isThere 5 (some .boolean) rm_X6_isThere g D cy [.ref q_t] [(q_t, .inr (6, [.ref q_t_m, .ref q_t_saved, .int t_savedCount, .ref q_t_text, .int t_textLength, .int t_code, .int t_at, .ref q_t_read, .int t_number, .ref q_t_counts, .ref q_t_scores, .ref q_t_isIn, .ref q_t_order, .int t_ranked, .int t_emptySide, .ref q_t_row, .ref q_t_listing, .int t_listingLength, .long t_hash])), (q_t_m, .inl (cy 0, 378, .inl t_m)), (q_t_read, .inl (cy 0, 40, .inl t_read))] (fun v w => w = [(q_t, .inr (6, [.ref q_t_m, .ref q_t_saved, .int t_savedCount, .ref q_t_text, .int t_textLength, .int t_code, .int t_at, .ref q_t_read, .int t_number, .ref q_t_counts, .ref q_t_scores, .ref q_t_isIn, .ref q_t_order, .int t_ranked, .int t_emptySide, .ref q_t_row, .ref q_t_listing, .int t_listingLength, .long t_hash])), (q_t_m, .inl (cy 0, 378, .inl t_m)), (q_t_read, .inl (cy 0, 40, .inl t_read))] ∧ ∃ r : Int32, v = some (.int r) ∧ Q r) := by
  refine UC_of (by decide +kernel) (Nat.le_of_ble_eq_true rfl) [(0, .ref q_t)] rfl (fun p e s m args below meth c A cx => ?_)
  unfold p_X6_isThere at h
  refine v_iconst (v := 0) cx dX6_isThere_0 (by decide) ?_
  refine v_istore_n (lv' := [(1, .int 0), (0, .ref q_t)]) cx dX6_isThere_1 rfl (by decide) rfl ?_
  refine v_iconst (v := 0) cx dX6_isThere_2 (by decide) ?_
  refine v_istore_n (lv' := [(2, .int 0), (1, .int 0), (0, .ref q_t)]) cx dX6_isThere_3 rfl (by decide) rfl ?_
  refine v_lv (lv' := [(0, .ref q_t), (1, .int 0), (2, .int 0)]) [2, 1, 0] rfl ?_
  refine w_X6_isThere_4 cx q_t q_t_m q_t_saved q_t_text q_t_read q_t_counts q_t_scores q_t_isIn q_t_order q_t_row q_t_listing ?_ N _ _ h
  · intro x1_4 x2_5 h
    refine v_iload_n cx dX6_isThere_79 rfl 1 rfl ?_
    exact v_ireturn cx (congrArg Value.int h.1) dX6_isThere_80 ⟨rfl, _, rfl, h.2⟩
abbrev rm_X6_addVariant : Room := { frames := 4, cells := 0, slots := 0, locals := 89 }
set_option maxHeartbeats 4000000 in
set_option maxRecDepth 100000 in
theorem w_X6_addVariant_75 {p : Program} {l : Launch} {e : Env} {s : State} {m : MethodId} {args : Array Value} {below : List Frame} {meth : Method} {c : Code} {Q9 : State → Prop} {mn : String} {Ts : List Cond} {D : va_G} {cy : Nat → ClassId} {g : gT} {A : Nat → Prop} (cx : vC p s m args meth c cX6_addVariant 3 (some .int) RX6 mn Ts D cy g A) (q_t q_t_m q_t_saved q_t_text q_t_read q_t_counts q_t_scores q_t_isIn q_t_order q_t_row q_t_listing : Nat) {x1 : Int32} {t_savedCount : Int32} {t_textLength : Int32} {t_code : Int32} {t_at : Int32} {t_number : Int32} {t_ranked : Int32} {t_emptySide : Int32} {t_listingLength : Int32} {t_hash : Int64} {t_read : Nat → Int32} {t_text : Nat → Int32} {t_saved : Nat → Int32} {N : Nat} {K101 : Int32 → (Nat → Int32) → Prop} (hK101 : ∀ (x2 : Int32) (t_m : Nat → Int32), K101 x2 t_m → vV p l e rm_X6_addVariant s m args below meth c Q9 3 D A 0 0 [(q_t, .inr (6, [.ref q_t_m, .ref q_t_saved, .int t_savedCount, .ref q_t_text, .int t_textLength, .int t_code, .int t_at, .ref q_t_read, .int t_number, .ref q_t_counts, .ref q_t_scores, .ref q_t_isIn, .ref q_t_order, .int t_ranked, .int t_emptySide, .ref q_t_row, .ref q_t_listing, .int t_listingLength, .long t_hash])), (q_t_read, .inl (cy 0, 40, .inl t_read)), (q_t_text, .inl (cy 0, 120, .inl t_text)), (q_t_m, .inl (cy 0, 378, .inl t_m)), (q_t_saved, .inl (cy 0, 1512, .inl t_saved))] 101 [(0, .ref q_t), (1, .int x1), (2, .int x2)] []) : ∀ (n : Nat) (x2 : Int32) (t_m : Nat → Int32), p_X6_addVariant_75 N x1 t_savedCount t_textLength t_code t_at t_number t_ranked t_emptySide t_listingLength t_hash t_read t_text t_saved K101 n x2 t_m → vV p l e rm_X6_addVariant s m args below meth c Q9 3 D A 0 0 [(q_t, .inr (6, [.ref q_t_m, .ref q_t_saved, .int t_savedCount, .ref q_t_text, .int t_textLength, .int t_code, .int t_at, .ref q_t_read, .int t_number, .ref q_t_counts, .ref q_t_scores, .ref q_t_isIn, .ref q_t_order, .int t_ranked, .int t_emptySide, .ref q_t_row, .ref q_t_listing, .int t_listingLength, .long t_hash])), (q_t_read, .inl (cy 0, 40, .inl t_read)), (q_t_text, .inl (cy 0, 120, .inl t_text)), (q_t_m, .inl (cy 0, 378, .inl t_m)), (q_t_saved, .inl (cy 0, 1512, .inl t_saved))] 75 [(0, .ref q_t), (1, .int x1), (2, .int x2)] [] := by
  intro n
  induction n with
  | zero => intro x2 t_m h; exact False.elim h
  | succ n ih =>
    intro x2 t_m h
    unfold p_X6_addVariant_75 at h
    refine v_iload_n cx dX6_addVariant_75 rfl 2 rfl ?_
    refine v_bipush (v := 6) cx dX6_addVariant_76 (by decide) ?_
    refine v_icmp_ge (tgt := 101) cx dX6_addVariant_78 (by decide) h (fun h => ?_) (fun h => ?_)
    · refine v_lv (lv' := [(0, .ref q_t), (1, .int x1), (2, .int x2)]) [0, 1, 2] rfl ?_
      exact hK101 _ _ h
    · refine v_aload_n cx dX6_addVariant_81 rfl 0 rfl ?_
      refine g_X6_7 cx dX6_addVariant_82 0 rfl rfl ?_
      refine v_iload_n cx dX6_addVariant_85 rfl 1 rfl ?_
      refine v_iload_n cx dX6_addVariant_86 rfl 2 rfl ?_
      refine v_iadd cx dX6_addVariant_87 ?_
      refine v_aload_n cx dX6_addVariant_88 rfl 0 rfl ?_
      refine g_X6_19 cx dX6_addVariant_89 0 rfl rfl ?_
      refine v_iload_n cx dX6_addVariant_92 rfl 2 rfl ?_
      refine v_iald cx dX6_addVariant_93 1 rfl h (fun h => ?_)
      refine v_iast (ws' := [(q_t, .inr (6, [.ref q_t_m, .ref q_t_saved, .int t_savedCount, .ref q_t_text, .int t_textLength, .int t_code, .int t_at, .ref q_t_read, .int t_number, .ref q_t_counts, .ref q_t_scores, .ref q_t_isIn, .ref q_t_order, .int t_ranked, .int t_emptySide, .ref q_t_row, .ref q_t_listing, .int t_listingLength, .long t_hash])), (q_t_read, .inl (cy 0, 40, .inl t_read)), (q_t_text, .inl (cy 0, 120, .inl t_text)), (q_t_m, .inl (cy 0, 378, .inl (upd t_m ((x1 + x2).toNatClampNeg) (t_read x2.toNatClampNeg)))), (q_t_saved, .inl (cy 0, 1512, .inl t_saved))]) cx dX6_addVariant_94 3 rfl h rfl (fun h => ?_)
      refine v_iinc (v := x2 + 1) (k0 := 2) (lv' := [(2, .int (x2 + 1)), (0, .ref q_t), (1, .int x1)]) cx dX6_addVariant_95 rfl rfl (by decide) rfl ?_
      refine v_goto (tgt := 75) cx dX6_addVariant_98 (by decide) ?_
      refine v_lv (lv' := [(0, .ref q_t), (1, .int x1), (2, .int (x2 + 1))]) [1, 2, 0] rfl ?_
      exact ih _ _ h
set_option maxHeartbeats 4000000 in
set_option maxRecDepth 100000 in
theorem c_X6_addVariant (l : Launch) (g : gT) (D : va_G) (cy : Nat → ClassId) (q_t q_t_m q_t_saved q_t_text q_t_read q_t_counts q_t_scores q_t_isIn q_t_order q_t_row q_t_listing : Nat) {t_savedCount : Int32} {t_textLength : Int32} {t_code : Int32} {t_at : Int32} {t_number : Int32} {t_ranked : Int32} {t_emptySide : Int32} {t_listingLength : Int32} {t_hash : Int64} {t_read : Nat → Int32} {t_text : Nat → Int32} {t_m : Nat → Int32} {t_saved : Nat → Int32} {N : Nat} {Q : Int32 → Int32 → Int32 → Int32 → Int32 → (Nat → Int32) → (Nat → Int32) → (Nat → Int32) → Prop} (h : p_X6_addVariant N t_savedCount t_textLength t_code t_at t_number t_ranked t_emptySide t_listingLength t_hash t_read t_text t_m t_saved Q) : UC l yX6_addVariant cX6_addVariant 3 (some .int) rm_X6_addVariant g D cy [.ref q_t] [(q_t, .inr (6, [.ref q_t_m, .ref q_t_saved, .int t_savedCount, .ref q_t_text, .int t_textLength, .int t_code, .int t_at, .ref q_t_read, .int t_number, .ref q_t_counts, .ref q_t_scores, .ref q_t_isIn, .ref q_t_order, .int t_ranked, .int t_emptySide, .ref q_t_row, .ref q_t_listing, .int t_listingLength, .long t_hash])), (q_t_read, .inl (cy 0, 40, .inl t_read)), (q_t_text, .inl (cy 0, 120, .inl t_text)), (q_t_m, .inl (cy 0, 378, .inl t_m)), (q_t_saved, .inl (cy 0, 1512, .inl t_saved))] (fun v w => ∃ (r : Int32) (t_savedCount' : Int32) (t_code' : Int32) (t_at' : Int32) (t_number' : Int32) (t_read' : Nat → Int32) (t_m' : Nat → Int32) (t_saved' : Nat → Int32), v = some (.int r) ∧ w = [(q_t, .inr (6, [.ref q_t_m, .ref q_t_saved, .int t_savedCount', .ref q_t_text, .int t_textLength, .int t_code', .int t_at', .ref q_t_read, .int t_number', .ref q_t_counts, .ref q_t_scores, .ref q_t_isIn, .ref q_t_order, .int t_ranked, .int t_emptySide, .ref q_t_row, .ref q_t_listing, .int t_listingLength, .long t_hash])), (q_t_read, .inl (cy 0, 40, .inl t_read')), (q_t_text, .inl (cy 0, 120, .inl t_text)), (q_t_m, .inl (cy 0, 378, .inl t_m')), (q_t_saved, .inl (cy 0, 1512, .inl t_saved'))] ∧ Q r t_savedCount' t_code' t_at' t_number' t_read' t_m' t_saved') := by
  refine UC_of (by decide +kernel) (Nat.le_of_ble_eq_true rfl) [(0, .ref q_t)] rfl (fun p e s m args below meth c A cx => ?_)
  unfold p_X6_addVariant at h
  refine v_aload_n cx dX6_addVariant_0 rfl 0 rfl ?_
  refine v_iconst (v := 0) cx dX6_addVariant_1 (by decide) ?_
  refine p_X6_45 (ws' := [(q_t, .inr (6, [.ref q_t_m, .ref q_t_saved, .int t_savedCount, .ref q_t_text, .int t_textLength, .int 0, .int t_at, .ref q_t_read, .int t_number, .ref q_t_counts, .ref q_t_scores, .ref q_t_isIn, .ref q_t_order, .int t_ranked, .int t_emptySide, .ref q_t_row, .ref q_t_listing, .int t_listingLength, .long t_hash])), (q_t_read, .inl (cy 0, 40, .inl t_read)), (q_t_text, .inl (cy 0, 120, .inl t_text)), (q_t_m, .inl (cy 0, 378, .inl t_m)), (q_t_saved, .inl (cy 0, 1512, .inl t_saved))]) cx dX6_addVariant_2 0 rfl rfl rfl (Nat.le_of_ble_eq_true rfl) rfl ?_
  refine v_aload_n cx dX6_addVariant_5 rfl 0 rfl ?_
  refine v_callV (As := []) cx (c_X6_readVariant l g D cy q_t q_t_m q_t_saved q_t_text q_t_read q_t_counts q_t_scores q_t_isIn q_t_order q_t_row q_t_listing h) k_X6_112 (by decide) (by decide) rfl rfl (Nat.le_of_ble_eq_true rfl) dX6_addVariant_6 [0, 1, 2] [3, 4] (by decide) rfl rfl rfl (q0 := 0) rfl rfl (fun v9 w9 hp => ?_)
  refine Exists.elim hp fun r_1 hp => Exists.elim hp fun u_2 hp => Exists.elim hp fun u_3 hp => Exists.elim hp fun u_4 hp => ?_
  obtain ⟨rfl, rfl, h⟩ := hp
  refine v_afterJ (ws' := [(q_t, .inr (6, [.ref q_t_m, .ref q_t_saved, .int t_savedCount, .ref q_t_text, .int t_textLength, .int 0, .int u_2, .ref q_t_read, .int u_3, .ref q_t_counts, .ref q_t_scores, .ref q_t_isIn, .ref q_t_order, .int t_ranked, .int t_emptySide, .ref q_t_row, .ref q_t_listing, .int t_listingLength, .long t_hash])), (q_t_read, .inl (cy 0, 40, .inl u_4)), (q_t_text, .inl (cy 0, 120, .inl t_text)), (q_t_m, .inl (cy 0, 378, .inl t_m)), (q_t_saved, .inl (cy 0, 1512, .inl t_saved))]) (st' := [.int r_1]) (ce := 0) (sl := 0) 5 [5, 6, 7, 3, 4] (by decide +kernel) (by decide +kernel) rfl rfl ⟨rfl, rfl⟩ ?_
  refine v_if_ne (tgt := 20) cx dX6_addVariant_9 (by decide) h (fun h => ?_) (fun h => ?_)
  · refine v_aload_n cx dX6_addVariant_20 rfl 0 rfl ?_
    refine v_aload_n cx dX6_addVariant_21 rfl 0 rfl ?_
    refine g_X6_7 cx dX6_addVariant_22 0 rfl rfl ?_
    refine v_iconst (v := 0) cx dX6_addVariant_25 (by decide) ?_
    refine v_iald cx dX6_addVariant_26 3 rfl ⟨by unfold vp_in; decide, h⟩ (fun h => ?_)
    refine v_bipush (v := 16) cx dX6_addVariant_27 (by decide) ?_
    refine v_icmp_eq (tgt := 39) cx dX6_addVariant_29 (by decide) h (fun h => ?_) (fun h => ?_)
    · refine v_iconst (v := 1) cx dX6_addVariant_39 (by decide) ?_
      refine v_goto (tgt := 44) cx dX6_addVariant_40 (by decide) ?_
      refine p_X6_45 (ws' := [(q_t, .inr (6, [.ref q_t_m, .ref q_t_saved, .int t_savedCount, .ref q_t_text, .int t_textLength, .int 1, .int u_2, .ref q_t_read, .int u_3, .ref q_t_counts, .ref q_t_scores, .ref q_t_isIn, .ref q_t_order, .int t_ranked, .int t_emptySide, .ref q_t_row, .ref q_t_listing, .int t_listingLength, .long t_hash])), (q_t_read, .inl (cy 0, 40, .inl u_4)), (q_t_text, .inl (cy 0, 120, .inl t_text)), (q_t_m, .inl (cy 0, 378, .inl t_m)), (q_t_saved, .inl (cy 0, 1512, .inl t_saved))]) cx dX6_addVariant_44 0 rfl rfl rfl (Nat.le_of_ble_eq_true rfl) rfl ?_
      refine v_aload_n cx dX6_addVariant_47 rfl 0 rfl ?_
      refine g_X6_45 cx dX6_addVariant_48 0 rfl rfl ?_
      refine v_if_eq (tgt := 56) (P1 := False) (P2 := True) cx dX6_addVariant_51 (by decide) (by decide) (fun z => z.elim) (fun _ => ?_)
      refine v_iconst (v := 0) cx dX6_addVariant_54 (by decide) ?_
      exact v_ireturn cx rfl dX6_addVariant_55 ⟨_, _, _, _, _, _, _, _, rfl, rfl, h⟩
    · refine v_aload_n cx dX6_addVariant_32 rfl 0 rfl ?_
      refine v_callVpi (As := []) cx (c_X6_isThere l g D cy q_t q_t_m q_t_saved q_t_text q_t_read q_t_counts q_t_scores q_t_isIn q_t_order q_t_row q_t_listing h) k_X6_121 (by decide) ⟨rfl, rfl⟩ (by decide) rfl rfl (Nat.le_of_ble_eq_true rfl) dX6_addVariant_33 [0, 3, 1] [2, 4] (by decide) (vj_all 5 rfl (by decide +kernel)) rfl rfl rfl (q0 := 0) rfl rfl (fun r_5 h => ?_)
      refine v_if_eq (tgt := 43) cx dX6_addVariant_36 (by decide) h (fun h => ?_) (fun h => ?_)
      · refine v_iconst (v := 0) cx dX6_addVariant_43 (by decide) ?_
        refine p_X6_45 (ws' := [(q_t, .inr (6, [.ref q_t_m, .ref q_t_saved, .int t_savedCount, .ref q_t_text, .int t_textLength, .int 0, .int u_2, .ref q_t_read, .int u_3, .ref q_t_counts, .ref q_t_scores, .ref q_t_isIn, .ref q_t_order, .int t_ranked, .int t_emptySide, .ref q_t_row, .ref q_t_listing, .int t_listingLength, .long t_hash])), (q_t_read, .inl (cy 0, 40, .inl u_4)), (q_t_text, .inl (cy 0, 120, .inl t_text)), (q_t_m, .inl (cy 0, 378, .inl t_m)), (q_t_saved, .inl (cy 0, 1512, .inl t_saved))]) cx dX6_addVariant_44 0 rfl rfl rfl (Nat.le_of_ble_eq_true rfl) rfl ?_
        refine v_aload_n cx dX6_addVariant_47 rfl 0 rfl ?_
        refine g_X6_45 cx dX6_addVariant_48 0 rfl rfl ?_
        refine v_if_eq (tgt := 56) (P1 := True) (P2 := False) cx dX6_addVariant_51 (by decide) (by decide) (fun _ => ?_) (fun z => z.elim)
        refine v_aload_n cx dX6_addVariant_56 rfl 0 rfl ?_
        refine v_callV (As := []) cx (c_X6_keep l g D cy q_t q_t_m q_t_saved q_t_text q_t_read q_t_counts q_t_scores q_t_isIn q_t_order q_t_row q_t_listing h) k_X6_115 (by decide) (by decide) rfl rfl (Nat.le_of_ble_eq_true rfl) dX6_addVariant_57 [0, 3, 4] [1, 2] (by decide) rfl rfl rfl (q0 := 0) rfl rfl (fun v9 w9 hp => ?_)
        obtain ⟨u_6, u_7, rfl, rfl, h⟩ := hp
        refine v_afterJ (ws' := [(q_t, .inr (6, [.ref q_t_m, .ref q_t_saved, .int u_6, .ref q_t_text, .int t_textLength, .int 0, .int u_2, .ref q_t_read, .int u_3, .ref q_t_counts, .ref q_t_scores, .ref q_t_isIn, .ref q_t_order, .int t_ranked, .int t_emptySide, .ref q_t_row, .ref q_t_listing, .int t_listingLength, .long t_hash])), (q_t_read, .inl (cy 0, 40, .inl u_4)), (q_t_text, .inl (cy 0, 120, .inl t_text)), (q_t_m, .inl (cy 0, 378, .inl t_m)), (q_t_saved, .inl (cy 0, 1512, .inl u_7))]) (st' := []) (ce := 0) (sl := 0) 5 [5, 1, 2, 6, 7] (by decide +kernel) (by decide +kernel) rfl rfl ⟨rfl, rfl⟩ ?_
        refine v_bipush (v := 10) cx dX6_addVariant_60 (by decide) ?_
        refine v_bipush (v := 8) cx dX6_addVariant_62 (by decide) ?_
        refine v_aload_n cx dX6_addVariant_64 rfl 0 rfl ?_
        refine g_X6_7 cx dX6_addVariant_65 0 rfl rfl ?_
        refine v_iconst (v := 0) cx dX6_addVariant_68 (by decide) ?_
        refine v_iald cx dX6_addVariant_69 3 rfl ⟨by unfold vp_in; decide, h⟩ (fun h => ?_)
        refine v_imul cx dX6_addVariant_70 ?_
        refine v_iadd cx dX6_addVariant_71 ?_
        refine v_istore_n (lv' := [(1, .int (10 + (8 * (t_m (0 : Int32).toNatClampNeg)))), (0, .ref q_t)]) cx dX6_addVariant_72 rfl (by decide) rfl ?_
        refine v_iconst (v := 0) cx dX6_addVariant_73 (by decide) ?_
        refine v_istore_n (lv' := [(2, .int 0), (1, .int (10 + (8 * (t_m (0 : Int32).toNatClampNeg)))), (0, .ref q_t)]) cx dX6_addVariant_74 rfl (by decide) rfl ?_
        refine v_lv (lv' := [(0, .ref q_t), (1, .int (10 + (8 * (t_m (0 : Int32).toNatClampNeg)))), (2, .int 0)]) [2, 1, 0] rfl ?_
        refine w_X6_addVariant_75 cx q_t q_t_m q_t_saved q_t_text q_t_read q_t_counts q_t_scores q_t_isIn q_t_order q_t_row q_t_listing ?_ N _ _ h
        · intro x2_8 t_m_9 h
          refine v_aload_n cx dX6_addVariant_101 rfl 0 rfl ?_
          refine g_X6_7 cx dX6_addVariant_102 0 rfl rfl ?_
          refine v_iload_n cx dX6_addVariant_105 rfl 1 rfl ?_
          refine v_bipush (v := 6) cx dX6_addVariant_106 (by decide) ?_
          refine v_iadd cx dX6_addVariant_108 ?_
          refine v_aload_n cx dX6_addVariant_109 rfl 0 rfl ?_
          refine g_X6_73 cx dX6_addVariant_110 0 rfl rfl ?_
          refine v_iast (ws' := [(q_t, .inr (6, [.ref q_t_m, .ref q_t_saved, .int u_6, .ref q_t_text, .int t_textLength, .int 0, .int u_2, .ref q_t_read, .int u_3, .ref q_t_counts, .ref q_t_scores, .ref q_t_isIn, .ref q_t_order, .int t_ranked, .int t_emptySide, .ref q_t_row, .ref q_t_listing, .int t_listingLength, .long t_hash])), (q_t_read, .inl (cy 0, 40, .inl u_4)), (q_t_text, .inl (cy 0, 120, .inl t_text)), (q_t_m, .inl (cy 0, 378, .inl (upd t_m_9 (((10 + (8 * (t_m (0 : Int32).toNatClampNeg))) + 6).toNatClampNeg) u_3))), (q_t_saved, .inl (cy 0, 1512, .inl u_7))]) cx dX6_addVariant_113 3 rfl h rfl (fun h => ?_)
          refine v_aload_n cx dX6_addVariant_114 rfl 0 rfl ?_
          refine g_X6_7 cx dX6_addVariant_115 0 rfl rfl ?_
          refine v_iload_n cx dX6_addVariant_118 rfl 1 rfl ?_
          refine v_bipush (v := 7) cx dX6_addVariant_119 (by decide) ?_
          refine v_iadd cx dX6_addVariant_121 ?_
          refine v_sipush (v := 1000) cx dX6_addVariant_122 (by decide) ?_
          refine v_iast (ws' := [(q_t, .inr (6, [.ref q_t_m, .ref q_t_saved, .int u_6, .ref q_t_text, .int t_textLength, .int 0, .int u_2, .ref q_t_read, .int u_3, .ref q_t_counts, .ref q_t_scores, .ref q_t_isIn, .ref q_t_order, .int t_ranked, .int t_emptySide, .ref q_t_row, .ref q_t_listing, .int t_listingLength, .long t_hash])), (q_t_read, .inl (cy 0, 40, .inl u_4)), (q_t_text, .inl (cy 0, 120, .inl t_text)), (q_t_m, .inl (cy 0, 378, .inl (upd (upd t_m_9 (((10 + (8 * (t_m (0 : Int32).toNatClampNeg))) + 6).toNatClampNeg) u_3) (((10 + (8 * (t_m (0 : Int32).toNatClampNeg))) + 7).toNatClampNeg) 1000))), (q_t_saved, .inl (cy 0, 1512, .inl u_7))]) cx dX6_addVariant_125 3 rfl h rfl (fun h => ?_)
          refine v_aload_n cx dX6_addVariant_126 rfl 0 rfl ?_
          refine g_X6_7 cx dX6_addVariant_127 0 rfl rfl ?_
          refine v_iconst (v := 0) cx dX6_addVariant_130 (by decide) ?_
          refine v_dup2 cx dX6_addVariant_131 rfl rfl ?_
          refine v_iald cx dX6_addVariant_132 3 rfl ⟨by unfold vp_in; decide, h⟩ (fun h => ?_)
          refine v_iconst (v := 1) cx dX6_addVariant_133 (by decide) ?_
          refine v_iadd cx dX6_addVariant_134 ?_
          refine v_iast (ws' := [(q_t, .inr (6, [.ref q_t_m, .ref q_t_saved, .int u_6, .ref q_t_text, .int t_textLength, .int 0, .int u_2, .ref q_t_read, .int u_3, .ref q_t_counts, .ref q_t_scores, .ref q_t_isIn, .ref q_t_order, .int t_ranked, .int t_emptySide, .ref q_t_row, .ref q_t_listing, .int t_listingLength, .long t_hash])), (q_t_read, .inl (cy 0, 40, .inl u_4)), (q_t_text, .inl (cy 0, 120, .inl t_text)), (q_t_m, .inl (cy 0, 378, .inl (upd (upd (upd t_m_9 (((10 + (8 * (t_m (0 : Int32).toNatClampNeg))) + 6).toNatClampNeg) u_3) (((10 + (8 * (t_m (0 : Int32).toNatClampNeg))) + 7).toNatClampNeg) 1000) ((0 : Int32).toNatClampNeg) (((upd (upd t_m_9 (((10 + (8 * (t_m (0 : Int32).toNatClampNeg))) + 6).toNatClampNeg) u_3) (((10 + (8 * (t_m (0 : Int32).toNatClampNeg))) + 7).toNatClampNeg) 1000) (0 : Int32).toNatClampNeg) + 1)))), (q_t_saved, .inl (cy 0, 1512, .inl u_7))]) cx dX6_addVariant_135 3 rfl ⟨by unfold vp_in; decide, h⟩ rfl (fun h => ?_)
          refine v_aload_n cx dX6_addVariant_136 rfl 0 rfl ?_
          refine g_X6_7 cx dX6_addVariant_137 0 rfl rfl ?_
          refine v_iconst (v := 0) cx dX6_addVariant_140 (by decide) ?_
          refine v_iald cx dX6_addVariant_141 3 rfl ⟨by unfold vp_in; decide, h⟩ (fun h => ?_)
          refine v_iconst (v := 1) cx dX6_addVariant_142 (by decide) ?_
          refine v_isub cx dX6_addVariant_143 ?_
          exact v_ireturn cx rfl dX6_addVariant_144 ⟨_, _, _, _, _, _, _, _, rfl, rfl, h⟩
      · refine v_iconst (v := 1) cx dX6_addVariant_39 (by decide) ?_
        refine v_goto (tgt := 44) cx dX6_addVariant_40 (by decide) ?_
        refine p_X6_45 (ws' := [(q_t, .inr (6, [.ref q_t_m, .ref q_t_saved, .int t_savedCount, .ref q_t_text, .int t_textLength, .int 1, .int u_2, .ref q_t_read, .int u_3, .ref q_t_counts, .ref q_t_scores, .ref q_t_isIn, .ref q_t_order, .int t_ranked, .int t_emptySide, .ref q_t_row, .ref q_t_listing, .int t_listingLength, .long t_hash])), (q_t_read, .inl (cy 0, 40, .inl u_4)), (q_t_text, .inl (cy 0, 120, .inl t_text)), (q_t_m, .inl (cy 0, 378, .inl t_m)), (q_t_saved, .inl (cy 0, 1512, .inl t_saved))]) cx dX6_addVariant_44 0 rfl rfl rfl (Nat.le_of_ble_eq_true rfl) rfl ?_
        refine v_aload_n cx dX6_addVariant_47 rfl 0 rfl ?_
        refine g_X6_45 cx dX6_addVariant_48 0 rfl rfl ?_
        refine v_if_eq (tgt := 56) (P1 := False) (P2 := True) cx dX6_addVariant_51 (by decide) (by decide) (fun z => z.elim) (fun _ => ?_)
        refine v_iconst (v := 0) cx dX6_addVariant_54 (by decide) ?_
        exact v_ireturn cx rfl dX6_addVariant_55 ⟨_, _, _, _, _, _, _, _, rfl, rfl, h⟩
  · refine v_bipush (v := (-10)) cx dX6_addVariant_12 (by decide) ?_
    refine v_aload_n cx dX6_addVariant_14 rfl 0 rfl ?_
    refine g_X6_66 cx dX6_addVariant_15 0 rfl rfl ?_
    refine v_isub cx dX6_addVariant_18 ?_
    exact v_ireturn cx rfl dX6_addVariant_19 ⟨_, _, _, _, _, _, _, _, rfl, rfl, h⟩
abbrev rm_X6_removeVariant : Room := { frames := 2, cells := 0, slots := 0, locals := 43 }
set_option maxHeartbeats 4000000 in
set_option maxRecDepth 100000 in
theorem w_X6_removeVariant_48 {p : Program} {l : Launch} {e : Env} {s : State} {m : MethodId} {args : Array Value} {below : List Frame} {meth : Method} {c : Code} {Q9 : State → Prop} {mn : String} {Ts : List Cond} {D : va_G} {cy : Nat → ClassId} {g : gT} {A : Nat → Prop} (cx : vC p s m args meth c cX6_removeVariant 3 (some .int) RX6 mn Ts D cy g A) (q_t q_t_m q_t_saved q_t_text q_t_read q_t_counts q_t_scores q_t_isIn q_t_order q_t_row q_t_listing : Nat) {x1 : Int32} {t_savedCount : Int32} {t_textLength : Int32} {t_code : Int32} {t_at : Int32} {t_number : Int32} {t_ranked : Int32} {t_emptySide : Int32} {t_listingLength : Int32} {t_hash : Int64} {t_saved : Nat → Int32} {N : Nat} {K85 : Int32 → (Nat → Int32) → Prop} (hK85 : ∀ (x2 : Int32) (t_m : Nat → Int32), K85 x2 t_m → vV p l e rm_X6_removeVariant s m args below meth c Q9 3 D A 0 0 [(q_t, .inr (6, [.ref q_t_m, .ref q_t_saved, .int t_savedCount, .ref q_t_text, .int t_textLength, .int t_code, .int t_at, .ref q_t_read, .int t_number, .ref q_t_counts, .ref q_t_scores, .ref q_t_isIn, .ref q_t_order, .int t_ranked, .int t_emptySide, .ref q_t_row, .ref q_t_listing, .int t_listingLength, .long t_hash])), (q_t_m, .inl (cy 0, 378, .inl t_m)), (q_t_saved, .inl (cy 0, 1512, .inl t_saved))] 85 [(0, .ref q_t), (1, .int x1), (2, .int x2)] []) : ∀ (n : Nat) (x2 : Int32) (t_m : Nat → Int32), p_X6_removeVariant_48 N x1 t_savedCount t_textLength t_code t_at t_number t_ranked t_emptySide t_listingLength t_hash t_saved K85 n x2 t_m → vV p l e rm_X6_removeVariant s m args below meth c Q9 3 D A 0 0 [(q_t, .inr (6, [.ref q_t_m, .ref q_t_saved, .int t_savedCount, .ref q_t_text, .int t_textLength, .int t_code, .int t_at, .ref q_t_read, .int t_number, .ref q_t_counts, .ref q_t_scores, .ref q_t_isIn, .ref q_t_order, .int t_ranked, .int t_emptySide, .ref q_t_row, .ref q_t_listing, .int t_listingLength, .long t_hash])), (q_t_m, .inl (cy 0, 378, .inl t_m)), (q_t_saved, .inl (cy 0, 1512, .inl t_saved))] 48 [(0, .ref q_t), (1, .int x1), (2, .int x2)] [] := by
  intro n
  induction n with
  | zero => intro x2 t_m h; exact False.elim h
  | succ n ih =>
    intro x2 t_m h
    unfold p_X6_removeVariant_48 at h
    refine v_iload_n cx dX6_removeVariant_48 rfl 2 rfl ?_
    refine v_bipush (v := 10) cx dX6_removeVariant_49 (by decide) ?_
    refine v_bipush (v := 8) cx dX6_removeVariant_51 (by decide) ?_
    refine v_aload_n cx dX6_removeVariant_53 rfl 0 rfl ?_
    refine g_X6_7 cx dX6_removeVariant_54 0 rfl rfl ?_
    refine v_iconst (v := 0) cx dX6_removeVariant_57 (by decide) ?_
    refine v_iald cx dX6_removeVariant_58 1 rfl ⟨by unfold vp_in; decide, h⟩ (fun h => ?_)
    refine v_imul cx dX6_removeVariant_59 ?_
    refine v_iadd cx dX6_removeVariant_60 ?_
    refine v_icmp_ge (tgt := 85) cx dX6_removeVariant_61 (by decide) h (fun h => ?_) (fun h => ?_)
    · refine v_lv (lv' := [(0, .ref q_t), (1, .int x1), (2, .int x2)]) [0, 1, 2] rfl ?_
      exact hK85 _ _ h
    · refine v_aload_n cx dX6_removeVariant_64 rfl 0 rfl ?_
      refine g_X6_7 cx dX6_removeVariant_65 0 rfl rfl ?_
      refine v_iload_n cx dX6_removeVariant_68 rfl 2 rfl ?_
      refine v_aload_n cx dX6_removeVariant_69 rfl 0 rfl ?_
      refine g_X6_7 cx dX6_removeVariant_70 0 rfl rfl ?_
      refine v_iload_n cx dX6_removeVariant_73 rfl 2 rfl ?_
      refine v_bipush (v := 8) cx dX6_removeVariant_74 (by decide) ?_
      refine v_iadd cx dX6_removeVariant_76 ?_
      refine v_iald cx dX6_removeVariant_77 1 rfl h (fun h => ?_)
      refine v_iast (ws' := [(q_t, .inr (6, [.ref q_t_m, .ref q_t_saved, .int t_savedCount, .ref q_t_text, .int t_textLength, .int t_code, .int t_at, .ref q_t_read, .int t_number, .ref q_t_counts, .ref q_t_scores, .ref q_t_isIn, .ref q_t_order, .int t_ranked, .int t_emptySide, .ref q_t_row, .ref q_t_listing, .int t_listingLength, .long t_hash])), (q_t_m, .inl (cy 0, 378, .inl (upd t_m x2.toNatClampNeg (t_m (x2 + 8).toNatClampNeg)))), (q_t_saved, .inl (cy 0, 1512, .inl t_saved))]) cx dX6_removeVariant_78 1 rfl h rfl (fun h => ?_)
      refine v_iinc (v := x2 + 1) (k0 := 2) (lv' := [(2, .int (x2 + 1)), (0, .ref q_t), (1, .int x1)]) cx dX6_removeVariant_79 rfl rfl (by decide) rfl ?_
      refine v_goto (tgt := 48) cx dX6_removeVariant_82 (by decide) ?_
      refine v_lv (lv' := [(0, .ref q_t), (1, .int x1), (2, .int (x2 + 1))]) [1, 2, 0] rfl ?_
      exact ih _ _ h
set_option maxHeartbeats 4000000 in
set_option maxRecDepth 100000 in
theorem c_X6_removeVariant (l : Launch) (g : gT) (D : va_G) (cy : Nat → ClassId) (q_t q_t_m q_t_saved q_t_text q_t_read q_t_counts q_t_scores q_t_isIn q_t_order q_t_row q_t_listing : Nat) {t_savedCount : Int32} {t_textLength : Int32} {t_code : Int32} {t_at : Int32} {t_number : Int32} {t_ranked : Int32} {t_emptySide : Int32} {t_listingLength : Int32} {t_hash : Int64} {t_m : Nat → Int32} {t_saved : Nat → Int32} {x1 : Int32} {N : Nat} {Q : Int32 → Int32 → Int32 → (Nat → Int32) → (Nat → Int32) → Prop} (h : p_X6_removeVariant N t_savedCount t_textLength t_code t_at t_number t_ranked t_emptySide t_listingLength t_hash t_m t_saved x1 Q) : UC l yX6_removeVariant cX6_removeVariant 3 (some .int) rm_X6_removeVariant g D cy [.ref q_t, .int x1] [(q_t, .inr (6, [.ref q_t_m, .ref q_t_saved, .int t_savedCount, .ref q_t_text, .int t_textLength, .int t_code, .int t_at, .ref q_t_read, .int t_number, .ref q_t_counts, .ref q_t_scores, .ref q_t_isIn, .ref q_t_order, .int t_ranked, .int t_emptySide, .ref q_t_row, .ref q_t_listing, .int t_listingLength, .long t_hash])), (q_t_m, .inl (cy 0, 378, .inl t_m)), (q_t_saved, .inl (cy 0, 1512, .inl t_saved))] (fun v w => ∃ (r : Int32) (t_savedCount' : Int32) (t_code' : Int32) (t_m' : Nat → Int32) (t_saved' : Nat → Int32), v = some (.int r) ∧ w = [(q_t, .inr (6, [.ref q_t_m, .ref q_t_saved, .int t_savedCount', .ref q_t_text, .int t_textLength, .int t_code', .int t_at, .ref q_t_read, .int t_number, .ref q_t_counts, .ref q_t_scores, .ref q_t_isIn, .ref q_t_order, .int t_ranked, .int t_emptySide, .ref q_t_row, .ref q_t_listing, .int t_listingLength, .long t_hash])), (q_t_m, .inl (cy 0, 378, .inl t_m')), (q_t_saved, .inl (cy 0, 1512, .inl t_saved'))] ∧ Q r t_savedCount' t_code' t_m' t_saved') := by
  refine UC_of (by decide +kernel) (Nat.le_of_ble_eq_true rfl) [(0, .ref q_t), (1, .int x1)] rfl (fun p e s m args below meth c A cx => ?_)
  unfold p_X6_removeVariant at h
  refine v_aload_n cx dX6_removeVariant_0 rfl 0 rfl ?_
  refine v_aload_n cx dX6_removeVariant_1 rfl 0 rfl ?_
  refine v_iload_n cx dX6_removeVariant_2 rfl 1 rfl ?_
  refine v_callVpi (As := [.int x1]) cx (c_X6_isVariant l g D cy q_t q_t_m q_t_saved q_t_text q_t_read q_t_counts q_t_scores q_t_isIn q_t_order q_t_row q_t_listing h) k_X6_124 (by decide) ⟨rfl, rfl⟩ (by decide) rfl rfl (Nat.le_of_ble_eq_true rfl) dX6_removeVariant_3 [0, 1] [2] (by decide) (vj_all 3 rfl (by decide +kernel)) rfl rfl rfl (q0 := 0) rfl rfl (fun r_1 h => ?_)
  refine v_if_eq (tgt := 13) cx dX6_removeVariant_6 (by decide) h (fun h => ?_) (fun h => ?_)
  · refine v_iconst (v := 1) cx dX6_removeVariant_13 (by decide) ?_
    refine p_X6_45 (ws' := [(q_t, .inr (6, [.ref q_t_m, .ref q_t_saved, .int t_savedCount, .ref q_t_text, .int t_textLength, .int 1, .int t_at, .ref q_t_read, .int t_number, .ref q_t_counts, .ref q_t_scores, .ref q_t_isIn, .ref q_t_order, .int t_ranked, .int t_emptySide, .ref q_t_row, .ref q_t_listing, .int t_listingLength, .long t_hash])), (q_t_m, .inl (cy 0, 378, .inl t_m)), (q_t_saved, .inl (cy 0, 1512, .inl t_saved))]) cx dX6_removeVariant_14 0 rfl rfl rfl (Nat.le_of_ble_eq_true rfl) rfl ?_
    refine v_aload_n cx dX6_removeVariant_17 rfl 0 rfl ?_
    refine g_X6_45 cx dX6_removeVariant_18 0 rfl rfl ?_
    refine v_if_eq (tgt := 26) (P1 := False) (P2 := True) cx dX6_removeVariant_21 (by decide) (by decide) (fun z => z.elim) (fun _ => ?_)
    refine v_iconst (v := 0) cx dX6_removeVariant_24 (by decide) ?_
    exact v_ireturn cx rfl dX6_removeVariant_25 ⟨_, _, _, _, _, rfl, rfl, h⟩
  · refine v_iconst (v := 0) cx dX6_removeVariant_9 (by decide) ?_
    refine v_goto (tgt := 14) cx dX6_removeVariant_10 (by decide) ?_
    refine p_X6_45 (ws' := [(q_t, .inr (6, [.ref q_t_m, .ref q_t_saved, .int t_savedCount, .ref q_t_text, .int t_textLength, .int 0, .int t_at, .ref q_t_read, .int t_number, .ref q_t_counts, .ref q_t_scores, .ref q_t_isIn, .ref q_t_order, .int t_ranked, .int t_emptySide, .ref q_t_row, .ref q_t_listing, .int t_listingLength, .long t_hash])), (q_t_m, .inl (cy 0, 378, .inl t_m)), (q_t_saved, .inl (cy 0, 1512, .inl t_saved))]) cx dX6_removeVariant_14 0 rfl rfl rfl (Nat.le_of_ble_eq_true rfl) rfl ?_
    refine v_aload_n cx dX6_removeVariant_17 rfl 0 rfl ?_
    refine g_X6_45 cx dX6_removeVariant_18 0 rfl rfl ?_
    refine v_if_eq (tgt := 26) (P1 := True) (P2 := False) cx dX6_removeVariant_21 (by decide) (by decide) (fun _ => ?_) (fun z => z.elim)
    refine v_aload_n cx dX6_removeVariant_26 rfl 0 rfl ?_
    refine v_callV (As := []) cx (c_X6_keep l g D cy q_t q_t_m q_t_saved q_t_text q_t_read q_t_counts q_t_scores q_t_isIn q_t_order q_t_row q_t_listing h) k_X6_115 (by decide) (by decide) rfl rfl (Nat.le_of_ble_eq_true rfl) dX6_removeVariant_27 [0, 1, 2] [] (by decide) rfl rfl rfl (q0 := 0) rfl rfl (fun v9 w9 hp => ?_)
    obtain ⟨u_2, u_3, rfl, rfl, h⟩ := hp
    refine v_afterJ (ws' := [(q_t, .inr (6, [.ref q_t_m, .ref q_t_saved, .int u_2, .ref q_t_text, .int t_textLength, .int 0, .int t_at, .ref q_t_read, .int t_number, .ref q_t_counts, .ref q_t_scores, .ref q_t_isIn, .ref q_t_order, .int t_ranked, .int t_emptySide, .ref q_t_row, .ref q_t_listing, .int t_listingLength, .long t_hash])), (q_t_m, .inl (cy 0, 378, .inl t_m)), (q_t_saved, .inl (cy 0, 1512, .inl u_3))]) (st' := []) (ce := 0) (sl := 0) 3 [3, 4, 5] (by decide +kernel) (by decide +kernel) rfl rfl ⟨rfl, rfl⟩ ?_
    refine v_aload_n cx dX6_removeVariant_30 rfl 0 rfl ?_
    refine g_X6_7 cx dX6_removeVariant_31 0 rfl rfl ?_
    refine v_iconst (v := 0) cx dX6_removeVariant_34 (by decide) ?_
    refine v_dup2 cx dX6_removeVariant_35 rfl rfl ?_
    refine v_iald cx dX6_removeVariant_36 1 rfl ⟨by unfold vp_in; decide, h⟩ (fun h => ?_)
    refine v_iconst (v := 1) cx dX6_removeVariant_37 (by decide) ?_
    refine v_isub cx dX6_removeVariant_38 ?_
    refine v_iast (ws' := [(q_t, .inr (6, [.ref q_t_m, .ref q_t_saved, .int u_2, .ref q_t_text, .int t_textLength, .int 0, .int t_at, .ref q_t_read, .int t_number, .ref q_t_counts, .ref q_t_scores, .ref q_t_isIn, .ref q_t_order, .int t_ranked, .int t_emptySide, .ref q_t_row, .ref q_t_listing, .int t_listingLength, .long t_hash])), (q_t_m, .inl (cy 0, 378, .inl (upd t_m ((0 : Int32).toNatClampNeg) ((t_m (0 : Int32).toNatClampNeg) - 1)))), (q_t_saved, .inl (cy 0, 1512, .inl u_3))]) cx dX6_removeVariant_39 1 rfl ⟨by unfold vp_in; decide, h⟩ rfl (fun h => ?_)
    refine v_bipush (v := 10) cx dX6_removeVariant_40 (by decide) ?_
    refine v_bipush (v := 8) cx dX6_removeVariant_42 (by decide) ?_
    refine v_iload_n cx dX6_removeVariant_44 rfl 1 rfl ?_
    refine v_imul cx dX6_removeVariant_45 ?_
    refine v_iadd cx dX6_removeVariant_46 ?_
    refine v_istore_n (lv' := [(2, .int (10 + (8 * x1))), (0, .ref q_t), (1, .int x1)]) cx dX6_removeVariant_47 rfl (by decide) rfl ?_
    refine v_lv (lv' := [(0, .ref q_t), (1, .int x1), (2, .int (10 + (8 * x1)))]) [1, 2, 0] rfl ?_
    refine w_X6_removeVariant_48 cx q_t q_t_m q_t_saved q_t_text q_t_read q_t_counts q_t_scores q_t_isIn q_t_order q_t_row q_t_listing ?_ N _ _ h
    · intro x2_4 t_m_5 h
      refine v_aload_n cx dX6_removeVariant_85 rfl 0 rfl ?_
      refine g_X6_7 cx dX6_removeVariant_86 0 rfl rfl ?_
      refine v_iconst (v := 0) cx dX6_removeVariant_89 (by decide) ?_
      refine v_iald cx dX6_removeVariant_90 1 rfl ⟨by unfold vp_in; decide, h⟩ (fun h => ?_)
      exact v_ireturn cx rfl dX6_removeVariant_91 ⟨_, _, _, _, _, rfl, rfl, h⟩
abbrev rm_X6_put : Room := { frames := 1, cells := 0, slots := 0, locals := 21 }
set_option maxHeartbeats 4000000 in
set_option maxRecDepth 100000 in
theorem c_X6_put (l : Launch) (g : gT) (D : va_G) (cy : Nat → ClassId) (q_t q_t_m q_t_saved q_t_text q_t_read q_t_counts q_t_scores q_t_isIn q_t_order q_t_row q_t_listing : Nat) {t_savedCount : Int32} {t_textLength : Int32} {t_code : Int32} {t_at : Int32} {t_number : Int32} {t_ranked : Int32} {t_emptySide : Int32} {t_listingLength : Int32} {t_hash : Int64} {t_m : Nat → Int32} {t_saved : Nat → Int32} {x1 : Int32} {x2 : Int32} {N : Nat} {Q : Int32 → Int32 → (Nat → Int32) → (Nat → Int32) → Prop} (h : p_X6_put N t_savedCount t_textLength t_code t_at t_number t_ranked t_emptySide t_listingLength t_hash t_m t_saved x1 x2 Q) : UC l yX6_put cX6_put 4 (some .int) rm_X6_put g D cy [.ref q_t, .int x1, .int x2] [(q_t, .inr (6, [.ref q_t_m, .ref q_t_saved, .int t_savedCount, .ref q_t_text, .int t_textLength, .int t_code, .int t_at, .ref q_t_read, .int t_number, .ref q_t_counts, .ref q_t_scores, .ref q_t_isIn, .ref q_t_order, .int t_ranked, .int t_emptySide, .ref q_t_row, .ref q_t_listing, .int t_listingLength, .long t_hash])), (q_t_m, .inl (cy 0, 378, .inl t_m)), (q_t_saved, .inl (cy 0, 1512, .inl t_saved))] (fun v w => ∃ (r : Int32) (t_savedCount' : Int32) (t_m' : Nat → Int32) (t_saved' : Nat → Int32), v = some (.int r) ∧ w = [(q_t, .inr (6, [.ref q_t_m, .ref q_t_saved, .int t_savedCount', .ref q_t_text, .int t_textLength, .int t_code, .int t_at, .ref q_t_read, .int t_number, .ref q_t_counts, .ref q_t_scores, .ref q_t_isIn, .ref q_t_order, .int t_ranked, .int t_emptySide, .ref q_t_row, .ref q_t_listing, .int t_listingLength, .long t_hash])), (q_t_m, .inl (cy 0, 378, .inl t_m')), (q_t_saved, .inl (cy 0, 1512, .inl t_saved'))] ∧ Q r t_savedCount' t_m' t_saved') := by
  refine UC_of (by decide +kernel) (Nat.le_of_ble_eq_true rfl) [(0, .ref q_t), (1, .int x1), (2, .int x2)] rfl (fun p e s m args below meth c A cx => ?_)
  unfold p_X6_put at h
  refine v_aload_n cx dX6_put_0 rfl 0 rfl ?_
  refine v_callV (As := []) cx (c_X6_keep l g D cy q_t q_t_m q_t_saved q_t_text q_t_read q_t_counts q_t_scores q_t_isIn q_t_order q_t_row q_t_listing h) k_X6_115 (by decide) (by decide) rfl rfl (Nat.le_of_ble_eq_true rfl) dX6_put_1 [0, 1, 2] [] (by decide) rfl rfl rfl (q0 := 0) rfl rfl (fun v9 w9 hp => ?_)
  obtain ⟨u_1, u_2, rfl, rfl, h⟩ := hp
  refine v_afterJ (ws' := [(q_t, .inr (6, [.ref q_t_m, .ref q_t_saved, .int u_1, .ref q_t_text, .int t_textLength, .int t_code, .int t_at, .ref q_t_read, .int t_number, .ref q_t_counts, .ref q_t_scores, .ref q_t_isIn, .ref q_t_order, .int t_ranked, .int t_emptySide, .ref q_t_row, .ref q_t_listing, .int t_listingLength, .long t_hash])), (q_t_m, .inl (cy 0, 378, .inl t_m)), (q_t_saved, .inl (cy 0, 1512, .inl u_2))]) (st' := []) (ce := 0) (sl := 0) 3 [3, 4, 5] (by decide +kernel) (by decide +kernel) rfl rfl ⟨rfl, rfl⟩ ?_
  refine v_aload_n cx dX6_put_4 rfl 0 rfl ?_
  refine g_X6_7 cx dX6_put_5 0 rfl rfl ?_
  refine v_iload_n cx dX6_put_8 rfl 1 rfl ?_
  refine v_iald cx dX6_put_9 1 rfl h (fun h => ?_)
  refine v_istore_n (lv' := [(3, .int (t_m x1.toNatClampNeg)), (0, .ref q_t), (1, .int x1), (2, .int x2)]) cx dX6_put_10 rfl (by decide) rfl ?_
  refine v_aload_n cx dX6_put_11 rfl 1 rfl ?_
  refine g_X6_7 cx dX6_put_12 0 rfl rfl ?_
  refine v_iload_n cx dX6_put_15 rfl 2 rfl ?_
  refine v_iload_n cx dX6_put_16 rfl 3 rfl ?_
  refine v_iast (ws' := [(q_t, .inr (6, [.ref q_t_m, .ref q_t_saved, .int u_1, .ref q_t_text, .int t_textLength, .int t_code, .int t_at, .ref q_t_read, .int t_number, .ref q_t_counts, .ref q_t_scores, .ref q_t_isIn, .ref q_t_order, .int t_ranked, .int t_emptySide, .ref q_t_row, .ref q_t_listing, .int t_listingLength, .long t_hash])), (q_t_m, .inl (cy 0, 378, .inl (upd t_m x1.toNatClampNeg x2))), (q_t_saved, .inl (cy 0, 1512, .inl u_2))]) cx dX6_put_17 1 rfl h rfl (fun h => ?_)
  refine v_iload_n cx dX6_put_18 rfl 0 rfl ?_
  exact v_ireturn cx rfl dX6_put_19 ⟨_, _, _, _, rfl, rfl, h⟩
abbrev rm_X6_setQuality : Room := { frames := 2, cells := 0, slots := 0, locals := 44 }
set_option maxHeartbeats 4000000 in
set_option maxRecDepth 100000 in
theorem c_X6_setQuality (l : Launch) (g : gT) (D : va_G) (cy : Nat → ClassId) (q_t q_t_m q_t_saved q_t_text q_t_read q_t_counts q_t_scores q_t_isIn q_t_order q_t_row q_t_listing : Nat) {t_savedCount : Int32} {t_textLength : Int32} {t_code : Int32} {t_at : Int32} {t_number : Int32} {t_ranked : Int32} {t_emptySide : Int32} {t_listingLength : Int32} {t_hash : Int64} {t_m : Nat → Int32} {t_saved : Nat → Int32} {x1 : Int32} {x2 : Int32} {N : Nat} {Q : Int32 → Int32 → Int32 → (Nat → Int32) → (Nat → Int32) → Prop} (h : p_X6_setQuality N t_savedCount t_textLength t_code t_at t_number t_ranked t_emptySide t_listingLength t_hash t_m t_saved x1 x2 Q) : UC l yX6_setQuality cX6_setQuality 3 (some .int) rm_X6_setQuality g D cy [.ref q_t, .int x1, .int x2] [(q_t, .inr (6, [.ref q_t_m, .ref q_t_saved, .int t_savedCount, .ref q_t_text, .int t_textLength, .int t_code, .int t_at, .ref q_t_read, .int t_number, .ref q_t_counts, .ref q_t_scores, .ref q_t_isIn, .ref q_t_order, .int t_ranked, .int t_emptySide, .ref q_t_row, .ref q_t_listing, .int t_listingLength, .long t_hash])), (q_t_m, .inl (cy 0, 378, .inl t_m)), (q_t_saved, .inl (cy 0, 1512, .inl t_saved))] (fun v w => ∃ (r : Int32) (t_savedCount' : Int32) (t_code' : Int32) (t_m' : Nat → Int32) (t_saved' : Nat → Int32), v = some (.int r) ∧ w = [(q_t, .inr (6, [.ref q_t_m, .ref q_t_saved, .int t_savedCount', .ref q_t_text, .int t_textLength, .int t_code', .int t_at, .ref q_t_read, .int t_number, .ref q_t_counts, .ref q_t_scores, .ref q_t_isIn, .ref q_t_order, .int t_ranked, .int t_emptySide, .ref q_t_row, .ref q_t_listing, .int t_listingLength, .long t_hash])), (q_t_m, .inl (cy 0, 378, .inl t_m')), (q_t_saved, .inl (cy 0, 1512, .inl t_saved'))] ∧ Q r t_savedCount' t_code' t_m' t_saved') := by
  refine UC_of (by decide +kernel) (Nat.le_of_ble_eq_true rfl) [(0, .ref q_t), (1, .int x1), (2, .int x2)] rfl (fun p e s m args below meth c A cx => ?_)
  unfold p_X6_setQuality at h
  refine v_aload_n cx dX6_setQuality_0 rfl 0 rfl ?_
  refine v_aload_n cx dX6_setQuality_1 rfl 0 rfl ?_
  refine v_iload_n cx dX6_setQuality_2 rfl 1 rfl ?_
  refine v_callVpi (As := [.int x1]) cx (c_X6_isVariant l g D cy q_t q_t_m q_t_saved q_t_text q_t_read q_t_counts q_t_scores q_t_isIn q_t_order q_t_row q_t_listing h) k_X6_124 (by decide) ⟨rfl, rfl⟩ (by decide) rfl rfl (Nat.le_of_ble_eq_true rfl) dX6_setQuality_3 [0, 1] [2] (by decide) (vj_all 3 rfl (by decide +kernel)) rfl rfl rfl (q0 := 0) rfl rfl (fun r_1 h => ?_)
  refine v_if_ne (tgt := 13) cx dX6_setQuality_6 (by decide) h (fun h => ?_) (fun h => ?_)
  · refine v_iload_n cx dX6_setQuality_13 rfl 2 rfl ?_
    refine v_iconst (v := 0) cx dX6_setQuality_14 (by decide) ?_
    refine v_sipush (v := 1000) cx dX6_setQuality_15 (by decide) ?_
    refine v_callSpi (As := [.int x2, .int 0, .int 1000]) cx (c_X6_in l g D cy  h) k_X6_51 (by decide) ⟨rfl, rfl⟩ (by decide) rfl rfl (Nat.le_of_ble_eq_true rfl) dX6_setQuality_18 [] [0, 1, 2] (by decide) (vj_all 3 rfl (by decide +kernel)) rfl rfl rfl (fun r_2 h => ?_)
    refine v_if_eq (tgt := 28) cx dX6_setQuality_21 (by decide) h (fun h => ?_) (fun h => ?_)
    · refine v_iconst (v := 2) cx dX6_setQuality_28 (by decide) ?_
      refine p_X6_45 (ws' := [(q_t, .inr (6, [.ref q_t_m, .ref q_t_saved, .int t_savedCount, .ref q_t_text, .int t_textLength, .int 2, .int t_at, .ref q_t_read, .int t_number, .ref q_t_counts, .ref q_t_scores, .ref q_t_isIn, .ref q_t_order, .int t_ranked, .int t_emptySide, .ref q_t_row, .ref q_t_listing, .int t_listingLength, .long t_hash])), (q_t_m, .inl (cy 0, 378, .inl t_m)), (q_t_saved, .inl (cy 0, 1512, .inl t_saved))]) cx dX6_setQuality_29 0 rfl rfl rfl (Nat.le_of_ble_eq_true rfl) rfl ?_
      refine v_aload_n cx dX6_setQuality_32 rfl 0 rfl ?_
      refine g_X6_45 cx dX6_setQuality_33 0 rfl rfl ?_
      refine v_if_eq (tgt := 43) (P1 := False) (P2 := True) cx dX6_setQuality_36 (by decide) (by decide) (fun z => z.elim) (fun _ => ?_)
      refine v_iconst (v := 0) cx dX6_setQuality_39 (by decide) ?_
      refine v_goto (tgt := 58) cx dX6_setQuality_40 (by decide) ?_
      exact v_ireturn cx rfl dX6_setQuality_58 ⟨_, _, _, _, _, rfl, rfl, h⟩
    · refine v_iconst (v := 0) cx dX6_setQuality_24 (by decide) ?_
      refine v_goto (tgt := 29) cx dX6_setQuality_25 (by decide) ?_
      refine p_X6_45 (ws' := [(q_t, .inr (6, [.ref q_t_m, .ref q_t_saved, .int t_savedCount, .ref q_t_text, .int t_textLength, .int 0, .int t_at, .ref q_t_read, .int t_number, .ref q_t_counts, .ref q_t_scores, .ref q_t_isIn, .ref q_t_order, .int t_ranked, .int t_emptySide, .ref q_t_row, .ref q_t_listing, .int t_listingLength, .long t_hash])), (q_t_m, .inl (cy 0, 378, .inl t_m)), (q_t_saved, .inl (cy 0, 1512, .inl t_saved))]) cx dX6_setQuality_29 0 rfl rfl rfl (Nat.le_of_ble_eq_true rfl) rfl ?_
      refine v_aload_n cx dX6_setQuality_32 rfl 0 rfl ?_
      refine g_X6_45 cx dX6_setQuality_33 0 rfl rfl ?_
      refine v_if_eq (tgt := 43) (P1 := True) (P2 := False) cx dX6_setQuality_36 (by decide) (by decide) (fun _ => ?_) (fun z => z.elim)
      refine v_aload_n cx dX6_setQuality_43 rfl 0 rfl ?_
      refine v_bipush (v := 10) cx dX6_setQuality_44 (by decide) ?_
      refine v_bipush (v := 8) cx dX6_setQuality_46 (by decide) ?_
      refine v_iload_n cx dX6_setQuality_48 rfl 1 rfl ?_
      refine v_imul cx dX6_setQuality_49 ?_
      refine v_iadd cx dX6_setQuality_50 ?_
      refine v_bipush (v := 7) cx dX6_setQuality_51 (by decide) ?_
      refine v_iadd cx dX6_setQuality_53 ?_
      refine v_iload_n cx dX6_setQuality_54 rfl 2 rfl ?_
      refine v_callV (As := [.int ((10 + (8 * x1)) + 7), .int x2]) cx (c_X6_put l g D cy q_t q_t_m q_t_saved q_t_text q_t_read q_t_counts q_t_scores q_t_isIn q_t_order q_t_row q_t_listing h) k_X6_127 (by decide) (by decide) rfl rfl (Nat.le_of_ble_eq_true rfl) dX6_setQuality_55 [0, 1, 2] [] (by decide) rfl rfl rfl (q0 := 0) rfl rfl (fun v9 w9 hp => ?_)
      refine Exists.elim hp fun r_3 hp => Exists.elim hp fun u_4 hp => Exists.elim hp fun u_5 hp => Exists.elim hp fun u_6 hp => ?_
      obtain ⟨rfl, rfl, h⟩ := hp
      refine v_afterJ (ws' := [(q_t, .inr (6, [.ref q_t_m, .ref q_t_saved, .int u_4, .ref q_t_text, .int t_textLength, .int 0, .int t_at, .ref q_t_read, .int t_number, .ref q_t_counts, .ref q_t_scores, .ref q_t_isIn, .ref q_t_order, .int t_ranked, .int t_emptySide, .ref q_t_row, .ref q_t_listing, .int t_listingLength, .long t_hash])), (q_t_m, .inl (cy 0, 378, .inl u_5)), (q_t_saved, .inl (cy 0, 1512, .inl u_6))]) (st' := [.int r_3]) (ce := 0) (sl := 0) 3 [3, 4, 5] (by decide +kernel) (by decide +kernel) rfl rfl ⟨rfl, rfl⟩ ?_
      exact v_ireturn cx rfl dX6_setQuality_58 ⟨_, _, _, _, _, rfl, rfl, h⟩
  · refine v_iconst (v := 1) cx dX6_setQuality_9 (by decide) ?_
    refine v_goto (tgt := 29) cx dX6_setQuality_10 (by decide) ?_
    refine p_X6_45 (ws' := [(q_t, .inr (6, [.ref q_t_m, .ref q_t_saved, .int t_savedCount, .ref q_t_text, .int t_textLength, .int 1, .int t_at, .ref q_t_read, .int t_number, .ref q_t_counts, .ref q_t_scores, .ref q_t_isIn, .ref q_t_order, .int t_ranked, .int t_emptySide, .ref q_t_row, .ref q_t_listing, .int t_listingLength, .long t_hash])), (q_t_m, .inl (cy 0, 378, .inl t_m)), (q_t_saved, .inl (cy 0, 1512, .inl t_saved))]) cx dX6_setQuality_29 0 rfl rfl rfl (Nat.le_of_ble_eq_true rfl) rfl ?_
    refine v_aload_n cx dX6_setQuality_32 rfl 0 rfl ?_
    refine g_X6_45 cx dX6_setQuality_33 0 rfl rfl ?_
    refine v_if_eq (tgt := 43) (P1 := False) (P2 := True) cx dX6_setQuality_36 (by decide) (by decide) (fun z => z.elim) (fun _ => ?_)
    refine v_iconst (v := 0) cx dX6_setQuality_39 (by decide) ?_
    refine v_goto (tgt := 58) cx dX6_setQuality_40 (by decide) ?_
    exact v_ireturn cx rfl dX6_setQuality_58 ⟨_, _, _, _, _, rfl, rfl, h⟩
abbrev rm_X6_setSize : Room := { frames := 2, cells := 0, slots := 0, locals := 44 }
set_option maxHeartbeats 4000000 in
set_option maxRecDepth 100000 in
theorem c_X6_setSize (l : Launch) (g : gT) (D : va_G) (cy : Nat → ClassId) (q_t q_t_m q_t_saved q_t_text q_t_read q_t_counts q_t_scores q_t_isIn q_t_order q_t_row q_t_listing : Nat) {t_savedCount : Int32} {t_textLength : Int32} {t_code : Int32} {t_at : Int32} {t_number : Int32} {t_ranked : Int32} {t_emptySide : Int32} {t_listingLength : Int32} {t_hash : Int64} {t_m : Nat → Int32} {t_saved : Nat → Int32} {x1 : Int32} {x2 : Int32} {N : Nat} {Q : Int32 → Int32 → Int32 → (Nat → Int32) → (Nat → Int32) → Prop} (h : p_X6_setSize N t_savedCount t_textLength t_code t_at t_number t_ranked t_emptySide t_listingLength t_hash t_m t_saved x1 x2 Q) : UC l yX6_setSize cX6_setSize 3 (some .int) rm_X6_setSize g D cy [.ref q_t, .int x1, .int x2] [(q_t, .inr (6, [.ref q_t_m, .ref q_t_saved, .int t_savedCount, .ref q_t_text, .int t_textLength, .int t_code, .int t_at, .ref q_t_read, .int t_number, .ref q_t_counts, .ref q_t_scores, .ref q_t_isIn, .ref q_t_order, .int t_ranked, .int t_emptySide, .ref q_t_row, .ref q_t_listing, .int t_listingLength, .long t_hash])), (q_t_m, .inl (cy 0, 378, .inl t_m)), (q_t_saved, .inl (cy 0, 1512, .inl t_saved))] (fun v w => ∃ (r : Int32) (t_savedCount' : Int32) (t_code' : Int32) (t_m' : Nat → Int32) (t_saved' : Nat → Int32), v = some (.int r) ∧ w = [(q_t, .inr (6, [.ref q_t_m, .ref q_t_saved, .int t_savedCount', .ref q_t_text, .int t_textLength, .int t_code', .int t_at, .ref q_t_read, .int t_number, .ref q_t_counts, .ref q_t_scores, .ref q_t_isIn, .ref q_t_order, .int t_ranked, .int t_emptySide, .ref q_t_row, .ref q_t_listing, .int t_listingLength, .long t_hash])), (q_t_m, .inl (cy 0, 378, .inl t_m')), (q_t_saved, .inl (cy 0, 1512, .inl t_saved'))] ∧ Q r t_savedCount' t_code' t_m' t_saved') := by
  refine UC_of (by decide +kernel) (Nat.le_of_ble_eq_true rfl) [(0, .ref q_t), (1, .int x1), (2, .int x2)] rfl (fun p e s m args below meth c A cx => ?_)
  unfold p_X6_setSize at h
  refine v_aload_n cx dX6_setSize_0 rfl 0 rfl ?_
  refine v_aload_n cx dX6_setSize_1 rfl 0 rfl ?_
  refine v_iload_n cx dX6_setSize_2 rfl 1 rfl ?_
  refine v_callVpi (As := [.int x1]) cx (c_X6_isVariant l g D cy q_t q_t_m q_t_saved q_t_text q_t_read q_t_counts q_t_scores q_t_isIn q_t_order q_t_row q_t_listing h) k_X6_124 (by decide) ⟨rfl, rfl⟩ (by decide) rfl rfl (Nat.le_of_ble_eq_true rfl) dX6_setSize_3 [0, 1] [2] (by decide) (vj_all 3 rfl (by decide +kernel)) rfl rfl rfl (q0 := 0) rfl rfl (fun r_1 h => ?_)
  refine v_if_ne (tgt := 13) cx dX6_setSize_6 (by decide) h (fun h => ?_) (fun h => ?_)
  · refine v_iload_n cx dX6_setSize_13 rfl 2 rfl ?_
    refine v_iconst (v := 0) cx dX6_setSize_14 (by decide) ?_
    refine v_ldc cx dX6_setSize_15 wK_X6_130 ?_
    refine v_callSpi (As := [.int x2, .int 0, .int 999999]) cx (c_X6_in l g D cy  h) k_X6_51 (by decide) ⟨rfl, rfl⟩ (by decide) rfl rfl (Nat.le_of_ble_eq_true rfl) dX6_setSize_17 [] [0, 1, 2] (by decide) (vj_all 3 rfl (by decide +kernel)) rfl rfl rfl (fun r_2 h => ?_)
    refine v_if_eq (tgt := 27) cx dX6_setSize_20 (by decide) h (fun h => ?_) (fun h => ?_)
    · refine v_iconst (v := 2) cx dX6_setSize_27 (by decide) ?_
      refine p_X6_45 (ws' := [(q_t, .inr (6, [.ref q_t_m, .ref q_t_saved, .int t_savedCount, .ref q_t_text, .int t_textLength, .int 2, .int t_at, .ref q_t_read, .int t_number, .ref q_t_counts, .ref q_t_scores, .ref q_t_isIn, .ref q_t_order, .int t_ranked, .int t_emptySide, .ref q_t_row, .ref q_t_listing, .int t_listingLength, .long t_hash])), (q_t_m, .inl (cy 0, 378, .inl t_m)), (q_t_saved, .inl (cy 0, 1512, .inl t_saved))]) cx dX6_setSize_28 0 rfl rfl rfl (Nat.le_of_ble_eq_true rfl) rfl ?_
      refine v_aload_n cx dX6_setSize_31 rfl 0 rfl ?_
      refine g_X6_45 cx dX6_setSize_32 0 rfl rfl ?_
      refine v_if_eq (tgt := 42) (P1 := False) (P2 := True) cx dX6_setSize_35 (by decide) (by decide) (fun z => z.elim) (fun _ => ?_)
      refine v_iconst (v := 0) cx dX6_setSize_38 (by decide) ?_
      refine v_goto (tgt := 57) cx dX6_setSize_39 (by decide) ?_
      exact v_ireturn cx rfl dX6_setSize_57 ⟨_, _, _, _, _, rfl, rfl, h⟩
    · refine v_iconst (v := 0) cx dX6_setSize_23 (by decide) ?_
      refine v_goto (tgt := 28) cx dX6_setSize_24 (by decide) ?_
      refine p_X6_45 (ws' := [(q_t, .inr (6, [.ref q_t_m, .ref q_t_saved, .int t_savedCount, .ref q_t_text, .int t_textLength, .int 0, .int t_at, .ref q_t_read, .int t_number, .ref q_t_counts, .ref q_t_scores, .ref q_t_isIn, .ref q_t_order, .int t_ranked, .int t_emptySide, .ref q_t_row, .ref q_t_listing, .int t_listingLength, .long t_hash])), (q_t_m, .inl (cy 0, 378, .inl t_m)), (q_t_saved, .inl (cy 0, 1512, .inl t_saved))]) cx dX6_setSize_28 0 rfl rfl rfl (Nat.le_of_ble_eq_true rfl) rfl ?_
      refine v_aload_n cx dX6_setSize_31 rfl 0 rfl ?_
      refine g_X6_45 cx dX6_setSize_32 0 rfl rfl ?_
      refine v_if_eq (tgt := 42) (P1 := True) (P2 := False) cx dX6_setSize_35 (by decide) (by decide) (fun _ => ?_) (fun z => z.elim)
      refine v_aload_n cx dX6_setSize_42 rfl 0 rfl ?_
      refine v_bipush (v := 10) cx dX6_setSize_43 (by decide) ?_
      refine v_bipush (v := 8) cx dX6_setSize_45 (by decide) ?_
      refine v_iload_n cx dX6_setSize_47 rfl 1 rfl ?_
      refine v_imul cx dX6_setSize_48 ?_
      refine v_iadd cx dX6_setSize_49 ?_
      refine v_bipush (v := 6) cx dX6_setSize_50 (by decide) ?_
      refine v_iadd cx dX6_setSize_52 ?_
      refine v_iload_n cx dX6_setSize_53 rfl 2 rfl ?_
      refine v_callV (As := [.int ((10 + (8 * x1)) + 6), .int x2]) cx (c_X6_put l g D cy q_t q_t_m q_t_saved q_t_text q_t_read q_t_counts q_t_scores q_t_isIn q_t_order q_t_row q_t_listing h) k_X6_127 (by decide) (by decide) rfl rfl (Nat.le_of_ble_eq_true rfl) dX6_setSize_54 [0, 1, 2] [] (by decide) rfl rfl rfl (q0 := 0) rfl rfl (fun v9 w9 hp => ?_)
      refine Exists.elim hp fun r_3 hp => Exists.elim hp fun u_4 hp => Exists.elim hp fun u_5 hp => Exists.elim hp fun u_6 hp => ?_
      obtain ⟨rfl, rfl, h⟩ := hp
      refine v_afterJ (ws' := [(q_t, .inr (6, [.ref q_t_m, .ref q_t_saved, .int u_4, .ref q_t_text, .int t_textLength, .int 0, .int t_at, .ref q_t_read, .int t_number, .ref q_t_counts, .ref q_t_scores, .ref q_t_isIn, .ref q_t_order, .int t_ranked, .int t_emptySide, .ref q_t_row, .ref q_t_listing, .int t_listingLength, .long t_hash])), (q_t_m, .inl (cy 0, 378, .inl u_5)), (q_t_saved, .inl (cy 0, 1512, .inl u_6))]) (st' := [.int r_3]) (ce := 0) (sl := 0) 3 [3, 4, 5] (by decide +kernel) (by decide +kernel) rfl rfl ⟨rfl, rfl⟩ ?_
      exact v_ireturn cx rfl dX6_setSize_57 ⟨_, _, _, _, _, rfl, rfl, h⟩
  · refine v_iconst (v := 1) cx dX6_setSize_9 (by decide) ?_
    refine v_goto (tgt := 28) cx dX6_setSize_10 (by decide) ?_
    refine p_X6_45 (ws' := [(q_t, .inr (6, [.ref q_t_m, .ref q_t_saved, .int t_savedCount, .ref q_t_text, .int t_textLength, .int 1, .int t_at, .ref q_t_read, .int t_number, .ref q_t_counts, .ref q_t_scores, .ref q_t_isIn, .ref q_t_order, .int t_ranked, .int t_emptySide, .ref q_t_row, .ref q_t_listing, .int t_listingLength, .long t_hash])), (q_t_m, .inl (cy 0, 378, .inl t_m)), (q_t_saved, .inl (cy 0, 1512, .inl t_saved))]) cx dX6_setSize_28 0 rfl rfl rfl (Nat.le_of_ble_eq_true rfl) rfl ?_
    refine v_aload_n cx dX6_setSize_31 rfl 0 rfl ?_
    refine g_X6_45 cx dX6_setSize_32 0 rfl rfl ?_
    refine v_if_eq (tgt := 42) (P1 := False) (P2 := True) cx dX6_setSize_35 (by decide) (by decide) (fun z => z.elim) (fun _ => ?_)
    refine v_iconst (v := 0) cx dX6_setSize_38 (by decide) ?_
    refine v_goto (tgt := 57) cx dX6_setSize_39 (by decide) ?_
    exact v_ireturn cx rfl dX6_setSize_57 ⟨_, _, _, _, _, rfl, rfl, h⟩
abbrev rm_X6_setWeight : Room := { frames := 3, cells := 0, slots := 0, locals := 66 }
set_option maxHeartbeats 4000000 in
set_option maxRecDepth 100000 in
theorem c_X6_setWeight (l : Launch) (g : gT) (D : va_G) (cy : Nat → ClassId) (q_t q_t_m q_t_saved q_t_text q_t_read q_t_counts q_t_scores q_t_isIn q_t_order q_t_row q_t_listing : Nat) {t_savedCount : Int32} {t_textLength : Int32} {t_code : Int32} {t_at : Int32} {t_number : Int32} {t_ranked : Int32} {t_emptySide : Int32} {t_listingLength : Int32} {t_hash : Int64} {t_m : Nat → Int32} {t_saved : Nat → Int32} {x1 : Int32} {x2 : Int32} {x3 : Int32} {x4 : Int32} {N : Nat} {Q : Int32 → Int32 → Int32 → (Nat → Int32) → (Nat → Int32) → Prop} (h : p_X6_setWeight N t_savedCount t_textLength t_code t_at t_number t_ranked t_emptySide t_listingLength t_hash t_m t_saved x1 x2 x3 x4 Q) : UC l yX6_setWeight cX6_setWeight 5 (some .int) rm_X6_setWeight g D cy [.ref q_t, .int x1, .int x2, .int x3, .int x4] [(q_t, .inr (6, [.ref q_t_m, .ref q_t_saved, .int t_savedCount, .ref q_t_text, .int t_textLength, .int t_code, .int t_at, .ref q_t_read, .int t_number, .ref q_t_counts, .ref q_t_scores, .ref q_t_isIn, .ref q_t_order, .int t_ranked, .int t_emptySide, .ref q_t_row, .ref q_t_listing, .int t_listingLength, .long t_hash])), (q_t_m, .inl (cy 0, 378, .inl t_m)), (q_t_saved, .inl (cy 0, 1512, .inl t_saved))] (fun v w => ∃ (r : Int32) (t_savedCount' : Int32) (t_code' : Int32) (t_m' : Nat → Int32) (t_saved' : Nat → Int32), v = some (.int r) ∧ w = [(q_t, .inr (6, [.ref q_t_m, .ref q_t_saved, .int t_savedCount', .ref q_t_text, .int t_textLength, .int t_code', .int t_at, .ref q_t_read, .int t_number, .ref q_t_counts, .ref q_t_scores, .ref q_t_isIn, .ref q_t_order, .int t_ranked, .int t_emptySide, .ref q_t_row, .ref q_t_listing, .int t_listingLength, .long t_hash])), (q_t_m, .inl (cy 0, 378, .inl t_m')), (q_t_saved, .inl (cy 0, 1512, .inl t_saved'))] ∧ Q r t_savedCount' t_code' t_m' t_saved') := by
  refine UC_of (by decide +kernel) (Nat.le_of_ble_eq_true rfl) [(0, .ref q_t), (1, .int x1), (2, .int x2), (3, .int x3), (4, .int x4)] rfl (fun p e s m args below meth c A cx => ?_)
  unfold p_X6_setWeight at h
  refine v_aload_n cx dX6_setWeight_0 rfl 0 rfl ?_
  refine v_aload_n cx dX6_setWeight_1 rfl 0 rfl ?_
  refine v_iload_n cx dX6_setWeight_2 rfl 1 rfl ?_
  refine v_iload_n cx dX6_setWeight_3 rfl 2 rfl ?_
  refine v_iload_n cx dX6_setWeight_4 rfl 3 rfl ?_
  refine v_callVpi (As := [.int x1, .int x2, .int x3]) cx (c_X6_isEntry l g D cy q_t q_t_m q_t_saved q_t_text q_t_read q_t_counts q_t_scores q_t_isIn q_t_order q_t_row q_t_listing h) k_X6_131 (by decide) ⟨rfl, rfl⟩ (by decide) rfl rfl (Nat.le_of_ble_eq_true rfl) dX6_setWeight_5 [0, 1] [2] (by decide) (vj_all 3 rfl (by decide +kernel)) rfl rfl rfl (q0 := 0) rfl rfl (fun r_1 h => ?_)
  refine v_if_ne (tgt := 15) cx dX6_setWeight_8 (by decide) h (fun h => ?_) (fun h => ?_)
  · refine v_iload cx dX6_setWeight_15 4 rfl ?_
    refine v_iconst (v := 0) cx dX6_setWeight_17 (by decide) ?_
    refine v_sipush (v := 1000) cx dX6_setWeight_18 (by decide) ?_
    refine v_callSpi (As := [.int x4, .int 0, .int 1000]) cx (c_X6_in l g D cy  h) k_X6_51 (by decide) ⟨rfl, rfl⟩ (by decide) rfl rfl (Nat.le_of_ble_eq_true rfl) dX6_setWeight_21 [] [0, 1, 2] (by decide) (vj_all 3 rfl (by decide +kernel)) rfl rfl rfl (fun r_2 h => ?_)
    refine v_if_eq (tgt := 31) cx dX6_setWeight_24 (by decide) h (fun h => ?_) (fun h => ?_)
    · refine v_iconst (v := 2) cx dX6_setWeight_31 (by decide) ?_
      refine p_X6_45 (ws' := [(q_t, .inr (6, [.ref q_t_m, .ref q_t_saved, .int t_savedCount, .ref q_t_text, .int t_textLength, .int 2, .int t_at, .ref q_t_read, .int t_number, .ref q_t_counts, .ref q_t_scores, .ref q_t_isIn, .ref q_t_order, .int t_ranked, .int t_emptySide, .ref q_t_row, .ref q_t_listing, .int t_listingLength, .long t_hash])), (q_t_m, .inl (cy 0, 378, .inl t_m)), (q_t_saved, .inl (cy 0, 1512, .inl t_saved))]) cx dX6_setWeight_32 0 rfl rfl rfl (Nat.le_of_ble_eq_true rfl) rfl ?_
      refine v_aload_n cx dX6_setWeight_35 rfl 0 rfl ?_
      refine g_X6_45 cx dX6_setWeight_36 0 rfl rfl ?_
      refine v_if_eq (tgt := 46) (P1 := False) (P2 := True) cx dX6_setWeight_39 (by decide) (by decide) (fun z => z.elim) (fun _ => ?_)
      refine v_iconst (v := 0) cx dX6_setWeight_42 (by decide) ?_
      refine v_goto (tgt := 70) cx dX6_setWeight_43 (by decide) ?_
      exact v_ireturn cx rfl dX6_setWeight_70 ⟨_, _, _, _, _, rfl, rfl, h⟩
    · refine v_iconst (v := 0) cx dX6_setWeight_27 (by decide) ?_
      refine v_goto (tgt := 32) cx dX6_setWeight_28 (by decide) ?_
      refine p_X6_45 (ws' := [(q_t, .inr (6, [.ref q_t_m, .ref q_t_saved, .int t_savedCount, .ref q_t_text, .int t_textLength, .int 0, .int t_at, .ref q_t_read, .int t_number, .ref q_t_counts, .ref q_t_scores, .ref q_t_isIn, .ref q_t_order, .int t_ranked, .int t_emptySide, .ref q_t_row, .ref q_t_listing, .int t_listingLength, .long t_hash])), (q_t_m, .inl (cy 0, 378, .inl t_m)), (q_t_saved, .inl (cy 0, 1512, .inl t_saved))]) cx dX6_setWeight_32 0 rfl rfl rfl (Nat.le_of_ble_eq_true rfl) rfl ?_
      refine v_aload_n cx dX6_setWeight_35 rfl 0 rfl ?_
      refine g_X6_45 cx dX6_setWeight_36 0 rfl rfl ?_
      refine v_if_eq (tgt := 46) (P1 := True) (P2 := False) cx dX6_setWeight_39 (by decide) (by decide) (fun _ => ?_) (fun z => z.elim)
      refine v_aload_n cx dX6_setWeight_46 rfl 0 rfl ?_
      refine v_sipush (v := 138) cx dX6_setWeight_47 (by decide) ?_
      refine v_bipush (v := 40) cx dX6_setWeight_50 (by decide) ?_
      refine v_iload_n cx dX6_setWeight_52 rfl 1 rfl ?_
      refine v_iload_n cx dX6_setWeight_53 rfl 2 rfl ?_
      refine v_callSpi (As := [.int x1, .int x2]) cx (c_X6_listOf l g D cy  h) k_X6_59 (by decide) ⟨rfl, rfl⟩ (by decide) rfl rfl (Nat.le_of_ble_eq_true rfl) dX6_setWeight_54 [] [0, 1, 2] (by decide) (vj_all 3 rfl (by decide +kernel)) rfl rfl rfl (fun r_3 h => ?_)
      refine v_imul cx dX6_setWeight_57 ?_
      refine v_iadd cx dX6_setWeight_58 ?_
      refine v_iconst (v := 4) cx dX6_setWeight_59 (by decide) ?_
      refine v_iload_n cx dX6_setWeight_60 rfl 3 rfl ?_
      refine v_imul cx dX6_setWeight_61 ?_
      refine v_iadd cx dX6_setWeight_62 ?_
      refine v_iconst (v := 3) cx dX6_setWeight_63 (by decide) ?_
      refine v_iadd cx dX6_setWeight_64 ?_
      refine v_iload cx dX6_setWeight_65 4 rfl ?_
      refine v_callV (As := [.int (((138 + (40 * r_3)) + (4 * x3)) + 3), .int x4]) cx (c_X6_put l g D cy q_t q_t_m q_t_saved q_t_text q_t_read q_t_counts q_t_scores q_t_isIn q_t_order q_t_row q_t_listing h) k_X6_127 (by decide) (by decide) rfl rfl (Nat.le_of_ble_eq_true rfl) dX6_setWeight_67 [0, 1, 2] [] (by decide) rfl rfl rfl (q0 := 0) rfl rfl (fun v9 w9 hp => ?_)
      refine Exists.elim hp fun r_4 hp => Exists.elim hp fun u_5 hp => Exists.elim hp fun u_6 hp => Exists.elim hp fun u_7 hp => ?_
      obtain ⟨rfl, rfl, h⟩ := hp
      refine v_afterJ (ws' := [(q_t, .inr (6, [.ref q_t_m, .ref q_t_saved, .int u_5, .ref q_t_text, .int t_textLength, .int 0, .int t_at, .ref q_t_read, .int t_number, .ref q_t_counts, .ref q_t_scores, .ref q_t_isIn, .ref q_t_order, .int t_ranked, .int t_emptySide, .ref q_t_row, .ref q_t_listing, .int t_listingLength, .long t_hash])), (q_t_m, .inl (cy 0, 378, .inl u_6)), (q_t_saved, .inl (cy 0, 1512, .inl u_7))]) (st' := [.int r_4]) (ce := 0) (sl := 0) 3 [3, 4, 5] (by decide +kernel) (by decide +kernel) rfl rfl ⟨rfl, rfl⟩ ?_
      exact v_ireturn cx rfl dX6_setWeight_70 ⟨_, _, _, _, _, rfl, rfl, h⟩
  · refine v_iconst (v := 1) cx dX6_setWeight_11 (by decide) ?_
    refine v_goto (tgt := 32) cx dX6_setWeight_12 (by decide) ?_
    refine p_X6_45 (ws' := [(q_t, .inr (6, [.ref q_t_m, .ref q_t_saved, .int t_savedCount, .ref q_t_text, .int t_textLength, .int 1, .int t_at, .ref q_t_read, .int t_number, .ref q_t_counts, .ref q_t_scores, .ref q_t_isIn, .ref q_t_order, .int t_ranked, .int t_emptySide, .ref q_t_row, .ref q_t_listing, .int t_listingLength, .long t_hash])), (q_t_m, .inl (cy 0, 378, .inl t_m)), (q_t_saved, .inl (cy 0, 1512, .inl t_saved))]) cx dX6_setWeight_32 0 rfl rfl rfl (Nat.le_of_ble_eq_true rfl) rfl ?_
    refine v_aload_n cx dX6_setWeight_35 rfl 0 rfl ?_
    refine g_X6_45 cx dX6_setWeight_36 0 rfl rfl ?_
    refine v_if_eq (tgt := 46) (P1 := False) (P2 := True) cx dX6_setWeight_39 (by decide) (by decide) (fun z => z.elim) (fun _ => ?_)
    refine v_iconst (v := 0) cx dX6_setWeight_42 (by decide) ?_
    refine v_goto (tgt := 70) cx dX6_setWeight_43 (by decide) ?_
    exact v_ireturn cx rfl dX6_setWeight_70 ⟨_, _, _, _, _, rfl, rfl, h⟩
abbrev rm_X6_removeEntry : Room := { frames := 3, cells := 0, slots := 0, locals := 66 }
set_option maxHeartbeats 4000000 in
set_option maxRecDepth 100000 in
theorem w_X6_removeEntry_67 {p : Program} {l : Launch} {e : Env} {s : State} {m : MethodId} {args : Array Value} {below : List Frame} {meth : Method} {c : Code} {Q9 : State → Prop} {mn : String} {Ts : List Cond} {D : va_G} {cy : Nat → ClassId} {g : gT} {A : Nat → Prop} (cx : vC p s m args meth c cX6_removeEntry 6 (some .int) RX6 mn Ts D cy g A) (q_t q_t_m q_t_saved q_t_text q_t_read q_t_counts q_t_scores q_t_isIn q_t_order q_t_row q_t_listing : Nat) {x1 : Int32} {x2 : Int32} {x3 : Int32} {x4 : Int32} {t_savedCount : Int32} {t_textLength : Int32} {t_code : Int32} {t_at : Int32} {t_number : Int32} {t_ranked : Int32} {t_emptySide : Int32} {t_listingLength : Int32} {t_hash : Int64} {t_saved : Nat → Int32} {N : Nat} {K115 : Int32 → (Nat → Int32) → Prop} (hK115 : ∀ (x5 : Int32) (t_m : Nat → Int32), K115 x5 t_m → vV p l e rm_X6_removeEntry s m args below meth c Q9 6 D A 0 0 [(q_t, .inr (6, [.ref q_t_m, .ref q_t_saved, .int t_savedCount, .ref q_t_text, .int t_textLength, .int t_code, .int t_at, .ref q_t_read, .int t_number, .ref q_t_counts, .ref q_t_scores, .ref q_t_isIn, .ref q_t_order, .int t_ranked, .int t_emptySide, .ref q_t_row, .ref q_t_listing, .int t_listingLength, .long t_hash])), (q_t_m, .inl (cy 0, 378, .inl t_m)), (q_t_saved, .inl (cy 0, 1512, .inl t_saved))] 115 [(0, .ref q_t), (1, .int x1), (2, .int x2), (3, .int x3), (4, .int x4), (5, .int x5)] []) : ∀ (n : Nat) (x5 : Int32) (t_m : Nat → Int32), p_X6_removeEntry_67 N x1 x2 x3 x4 t_savedCount t_textLength t_code t_at t_number t_ranked t_emptySide t_listingLength t_hash t_saved K115 n x5 t_m → vV p l e rm_X6_removeEntry s m args below meth c Q9 6 D A 0 0 [(q_t, .inr (6, [.ref q_t_m, .ref q_t_saved, .int t_savedCount, .ref q_t_text, .int t_textLength, .int t_code, .int t_at, .ref q_t_read, .int t_number, .ref q_t_counts, .ref q_t_scores, .ref q_t_isIn, .ref q_t_order, .int t_ranked, .int t_emptySide, .ref q_t_row, .ref q_t_listing, .int t_listingLength, .long t_hash])), (q_t_m, .inl (cy 0, 378, .inl t_m)), (q_t_saved, .inl (cy 0, 1512, .inl t_saved))] 67 [(0, .ref q_t), (1, .int x1), (2, .int x2), (3, .int x3), (4, .int x4), (5, .int x5)] [] := by
  intro n
  induction n with
  | zero => intro x5 t_m h; exact False.elim h
  | succ n ih =>
    intro x5 t_m h
    unfold p_X6_removeEntry_67 at h
    refine v_iload cx dX6_removeEntry_67 5 rfl ?_
    refine v_sipush (v := 138) cx dX6_removeEntry_69 (by decide) ?_
    refine v_bipush (v := 40) cx dX6_removeEntry_72 (by decide) ?_
    refine v_iload cx dX6_removeEntry_74 4 rfl ?_
    refine v_imul cx dX6_removeEntry_76 ?_
    refine v_iadd cx dX6_removeEntry_77 ?_
    refine v_iconst (v := 4) cx dX6_removeEntry_78 (by decide) ?_
    refine v_aload_n cx dX6_removeEntry_79 rfl 0 rfl ?_
    refine g_X6_7 cx dX6_removeEntry_80 0 rfl rfl ?_
    refine v_iconst (v := 4) cx dX6_removeEntry_83 (by decide) ?_
    refine v_iload cx dX6_removeEntry_84 4 rfl ?_
    refine v_iadd cx dX6_removeEntry_86 ?_
    refine v_iald cx dX6_removeEntry_87 1 rfl h (fun h => ?_)
    refine v_imul cx dX6_removeEntry_88 ?_
    refine v_iadd cx dX6_removeEntry_89 ?_
    refine v_icmp_ge (tgt := 115) cx dX6_removeEntry_90 (by decide) h (fun h => ?_) (fun h => ?_)
    · refine v_lv (lv' := [(0, .ref q_t), (1, .int x1), (2, .int x2), (3, .int x3), (4, .int x4), (5, .int x5)]) [0, 1, 2, 3, 4, 5] rfl ?_
      exact hK115 _ _ h
    · refine v_aload_n cx dX6_removeEntry_93 rfl 0 rfl ?_
      refine g_X6_7 cx dX6_removeEntry_94 0 rfl rfl ?_
      refine v_iload cx dX6_removeEntry_97 5 rfl ?_
      refine v_aload_n cx dX6_removeEntry_99 rfl 0 rfl ?_
      refine g_X6_7 cx dX6_removeEntry_100 0 rfl rfl ?_
      refine v_iload cx dX6_removeEntry_103 5 rfl ?_
      refine v_iconst (v := 4) cx dX6_removeEntry_105 (by decide) ?_
      refine v_iadd cx dX6_removeEntry_106 ?_
      refine v_iald cx dX6_removeEntry_107 1 rfl h (fun h => ?_)
      refine v_iast (ws' := [(q_t, .inr (6, [.ref q_t_m, .ref q_t_saved, .int t_savedCount, .ref q_t_text, .int t_textLength, .int t_code, .int t_at, .ref q_t_read, .int t_number, .ref q_t_counts, .ref q_t_scores, .ref q_t_isIn, .ref q_t_order, .int t_ranked, .int t_emptySide, .ref q_t_row, .ref q_t_listing, .int t_listingLength, .long t_hash])), (q_t_m, .inl (cy 0, 378, .inl (upd t_m x5.toNatClampNeg (t_m (x5 + 4).toNatClampNeg)))), (q_t_saved, .inl (cy 0, 1512, .inl t_saved))]) cx dX6_removeEntry_108 1 rfl h rfl (fun h => ?_)
      refine v_iinc (v := x5 + 1) (k0 := 5) (lv' := [(5, .int (x5 + 1)), (0, .ref q_t), (1, .int x1), (2, .int x2), (3, .int x3), (4, .int x4)]) cx dX6_removeEntry_109 rfl rfl (by decide) rfl ?_
      refine v_goto (tgt := 67) cx dX6_removeEntry_112 (by decide) ?_
      refine v_lv (lv' := [(0, .ref q_t), (1, .int x1), (2, .int x2), (3, .int x3), (4, .int x4), (5, .int (x5 + 1))]) [1, 2, 3, 4, 5, 0] rfl ?_
      exact ih _ _ h
set_option maxHeartbeats 4000000 in
set_option maxRecDepth 100000 in
theorem c_X6_removeEntry (l : Launch) (g : gT) (D : va_G) (cy : Nat → ClassId) (q_t q_t_m q_t_saved q_t_text q_t_read q_t_counts q_t_scores q_t_isIn q_t_order q_t_row q_t_listing : Nat) {t_savedCount : Int32} {t_textLength : Int32} {t_code : Int32} {t_at : Int32} {t_number : Int32} {t_ranked : Int32} {t_emptySide : Int32} {t_listingLength : Int32} {t_hash : Int64} {t_m : Nat → Int32} {t_saved : Nat → Int32} {x1 : Int32} {x2 : Int32} {x3 : Int32} {N : Nat} {Q : Int32 → Int32 → Int32 → (Nat → Int32) → (Nat → Int32) → Prop} (h : p_X6_removeEntry N t_savedCount t_textLength t_code t_at t_number t_ranked t_emptySide t_listingLength t_hash t_m t_saved x1 x2 x3 Q) : UC l yX6_removeEntry cX6_removeEntry 6 (some .int) rm_X6_removeEntry g D cy [.ref q_t, .int x1, .int x2, .int x3] [(q_t, .inr (6, [.ref q_t_m, .ref q_t_saved, .int t_savedCount, .ref q_t_text, .int t_textLength, .int t_code, .int t_at, .ref q_t_read, .int t_number, .ref q_t_counts, .ref q_t_scores, .ref q_t_isIn, .ref q_t_order, .int t_ranked, .int t_emptySide, .ref q_t_row, .ref q_t_listing, .int t_listingLength, .long t_hash])), (q_t_m, .inl (cy 0, 378, .inl t_m)), (q_t_saved, .inl (cy 0, 1512, .inl t_saved))] (fun v w => ∃ (r : Int32) (t_savedCount' : Int32) (t_code' : Int32) (t_m' : Nat → Int32) (t_saved' : Nat → Int32), v = some (.int r) ∧ w = [(q_t, .inr (6, [.ref q_t_m, .ref q_t_saved, .int t_savedCount', .ref q_t_text, .int t_textLength, .int t_code', .int t_at, .ref q_t_read, .int t_number, .ref q_t_counts, .ref q_t_scores, .ref q_t_isIn, .ref q_t_order, .int t_ranked, .int t_emptySide, .ref q_t_row, .ref q_t_listing, .int t_listingLength, .long t_hash])), (q_t_m, .inl (cy 0, 378, .inl t_m')), (q_t_saved, .inl (cy 0, 1512, .inl t_saved'))] ∧ Q r t_savedCount' t_code' t_m' t_saved') := by
  refine UC_of (by decide +kernel) (Nat.le_of_ble_eq_true rfl) [(0, .ref q_t), (1, .int x1), (2, .int x2), (3, .int x3)] rfl (fun p e s m args below meth c A cx => ?_)
  unfold p_X6_removeEntry at h
  refine v_aload_n cx dX6_removeEntry_0 rfl 0 rfl ?_
  refine v_aload_n cx dX6_removeEntry_1 rfl 0 rfl ?_
  refine v_iload_n cx dX6_removeEntry_2 rfl 1 rfl ?_
  refine v_iload_n cx dX6_removeEntry_3 rfl 2 rfl ?_
  refine v_iload_n cx dX6_removeEntry_4 rfl 3 rfl ?_
  refine v_callVpi (As := [.int x1, .int x2, .int x3]) cx (c_X6_isEntry l g D cy q_t q_t_m q_t_saved q_t_text q_t_read q_t_counts q_t_scores q_t_isIn q_t_order q_t_row q_t_listing h) k_X6_131 (by decide) ⟨rfl, rfl⟩ (by decide) rfl rfl (Nat.le_of_ble_eq_true rfl) dX6_removeEntry_5 [0, 1] [2] (by decide) (vj_all 3 rfl (by decide +kernel)) rfl rfl rfl (q0 := 0) rfl rfl (fun r_1 h => ?_)
  refine v_if_eq (tgt := 15) cx dX6_removeEntry_8 (by decide) h (fun h => ?_) (fun h => ?_)
  · refine v_iconst (v := 1) cx dX6_removeEntry_15 (by decide) ?_
    refine p_X6_45 (ws' := [(q_t, .inr (6, [.ref q_t_m, .ref q_t_saved, .int t_savedCount, .ref q_t_text, .int t_textLength, .int 1, .int t_at, .ref q_t_read, .int t_number, .ref q_t_counts, .ref q_t_scores, .ref q_t_isIn, .ref q_t_order, .int t_ranked, .int t_emptySide, .ref q_t_row, .ref q_t_listing, .int t_listingLength, .long t_hash])), (q_t_m, .inl (cy 0, 378, .inl t_m)), (q_t_saved, .inl (cy 0, 1512, .inl t_saved))]) cx dX6_removeEntry_16 0 rfl rfl rfl (Nat.le_of_ble_eq_true rfl) rfl ?_
    refine v_aload_n cx dX6_removeEntry_19 rfl 0 rfl ?_
    refine g_X6_45 cx dX6_removeEntry_20 0 rfl rfl ?_
    refine v_if_eq (tgt := 28) (P1 := False) (P2 := True) cx dX6_removeEntry_23 (by decide) (by decide) (fun z => z.elim) (fun _ => ?_)
    refine v_iconst (v := 0) cx dX6_removeEntry_26 (by decide) ?_
    exact v_ireturn cx rfl dX6_removeEntry_27 ⟨_, _, _, _, _, rfl, rfl, h⟩
  · refine v_iconst (v := 0) cx dX6_removeEntry_11 (by decide) ?_
    refine v_goto (tgt := 16) cx dX6_removeEntry_12 (by decide) ?_
    refine p_X6_45 (ws' := [(q_t, .inr (6, [.ref q_t_m, .ref q_t_saved, .int t_savedCount, .ref q_t_text, .int t_textLength, .int 0, .int t_at, .ref q_t_read, .int t_number, .ref q_t_counts, .ref q_t_scores, .ref q_t_isIn, .ref q_t_order, .int t_ranked, .int t_emptySide, .ref q_t_row, .ref q_t_listing, .int t_listingLength, .long t_hash])), (q_t_m, .inl (cy 0, 378, .inl t_m)), (q_t_saved, .inl (cy 0, 1512, .inl t_saved))]) cx dX6_removeEntry_16 0 rfl rfl rfl (Nat.le_of_ble_eq_true rfl) rfl ?_
    refine v_aload_n cx dX6_removeEntry_19 rfl 0 rfl ?_
    refine g_X6_45 cx dX6_removeEntry_20 0 rfl rfl ?_
    refine v_if_eq (tgt := 28) (P1 := True) (P2 := False) cx dX6_removeEntry_23 (by decide) (by decide) (fun _ => ?_) (fun z => z.elim)
    refine v_aload_n cx dX6_removeEntry_28 rfl 0 rfl ?_
    refine v_callV (As := []) cx (c_X6_keep l g D cy q_t q_t_m q_t_saved q_t_text q_t_read q_t_counts q_t_scores q_t_isIn q_t_order q_t_row q_t_listing h) k_X6_115 (by decide) (by decide) rfl rfl (Nat.le_of_ble_eq_true rfl) dX6_removeEntry_29 [0, 1, 2] [] (by decide) rfl rfl rfl (q0 := 0) rfl rfl (fun v9 w9 hp => ?_)
    obtain ⟨u_2, u_3, rfl, rfl, h⟩ := hp
    refine v_afterJ (ws' := [(q_t, .inr (6, [.ref q_t_m, .ref q_t_saved, .int u_2, .ref q_t_text, .int t_textLength, .int 0, .int t_at, .ref q_t_read, .int t_number, .ref q_t_counts, .ref q_t_scores, .ref q_t_isIn, .ref q_t_order, .int t_ranked, .int t_emptySide, .ref q_t_row, .ref q_t_listing, .int t_listingLength, .long t_hash])), (q_t_m, .inl (cy 0, 378, .inl t_m)), (q_t_saved, .inl (cy 0, 1512, .inl u_3))]) (st' := []) (ce := 0) (sl := 0) 3 [3, 4, 5] (by decide +kernel) (by decide +kernel) rfl rfl ⟨rfl, rfl⟩ ?_
    refine v_iload_n cx dX6_removeEntry_32 rfl 1 rfl ?_
    refine v_iload_n cx dX6_removeEntry_33 rfl 2 rfl ?_
    refine v_callSpi (As := [.int x1, .int x2]) cx (c_X6_listOf l g D cy  h) k_X6_59 (by decide) ⟨rfl, rfl⟩ (by decide) rfl rfl (Nat.le_of_ble_eq_true rfl) dX6_removeEntry_34 [] [0, 1, 2] (by decide) (vj_all 3 rfl (by decide +kernel)) rfl rfl rfl (fun r_4 h => ?_)
    refine v_istore (lv' := [(4, .int r_4), (0, .ref q_t), (1, .int x1), (2, .int x2), (3, .int x3)]) cx dX6_removeEntry_37 (by decide) rfl ?_
    refine v_aload_n cx dX6_removeEntry_39 rfl 1 rfl ?_
    refine g_X6_7 cx dX6_removeEntry_40 0 rfl rfl ?_
    refine v_iconst (v := 4) cx dX6_removeEntry_43 (by decide) ?_
    refine v_iload cx dX6_removeEntry_44 0 rfl ?_
    refine v_iadd cx dX6_removeEntry_46 ?_
    refine v_dup2 cx dX6_removeEntry_47 rfl rfl ?_
    refine v_iald cx dX6_removeEntry_48 1 rfl h (fun h => ?_)
    refine v_iconst (v := 1) cx dX6_removeEntry_49 (by decide) ?_
    refine v_isub cx dX6_removeEntry_50 ?_
    refine v_iast (ws' := [(q_t, .inr (6, [.ref q_t_m, .ref q_t_saved, .int u_2, .ref q_t_text, .int t_textLength, .int 0, .int t_at, .ref q_t_read, .int t_number, .ref q_t_counts, .ref q_t_scores, .ref q_t_isIn, .ref q_t_order, .int t_ranked, .int t_emptySide, .ref q_t_row, .ref q_t_listing, .int t_listingLength, .long t_hash])), (q_t_m, .inl (cy 0, 378, .inl (upd t_m ((4 + r_4).toNatClampNeg) ((t_m (4 + r_4).toNatClampNeg) - 1)))), (q_t_saved, .inl (cy 0, 1512, .inl u_3))]) cx dX6_removeEntry_51 1 rfl h rfl (fun h => ?_)
    refine v_sipush (v := 138) cx dX6_removeEntry_52 (by decide) ?_
    refine v_bipush (v := 40) cx dX6_removeEntry_55 (by decide) ?_
    refine v_iload cx dX6_removeEntry_57 0 rfl ?_
    refine v_imul cx dX6_removeEntry_59 ?_
    refine v_iadd cx dX6_removeEntry_60 ?_
    refine v_iconst (v := 4) cx dX6_removeEntry_61 (by decide) ?_
    refine v_iload_n cx dX6_removeEntry_62 rfl 4 rfl ?_
    refine v_imul cx dX6_removeEntry_63 ?_
    refine v_iadd cx dX6_removeEntry_64 ?_
    refine v_istore (lv' := [(5, .int ((138 + (40 * r_4)) + (4 * x3))), (4, .int r_4), (0, .ref q_t), (1, .int x1), (2, .int x2), (3, .int x3)]) cx dX6_removeEntry_65 (by decide) rfl ?_
    refine v_lv (lv' := [(0, .ref q_t), (1, .int x1), (2, .int x2), (3, .int x3), (4, .int r_4), (5, .int ((138 + (40 * r_4)) + (4 * x3)))]) [2, 3, 4, 5, 1, 0] rfl ?_
    refine w_X6_removeEntry_67 cx q_t q_t_m q_t_saved q_t_text q_t_read q_t_counts q_t_scores q_t_isIn q_t_order q_t_row q_t_listing ?_ N _ _ h
    · intro x5_5 t_m_6 h
      refine v_aload_n cx dX6_removeEntry_115 rfl 0 rfl ?_
      refine g_X6_7 cx dX6_removeEntry_116 0 rfl rfl ?_
      refine v_iconst (v := 4) cx dX6_removeEntry_119 (by decide) ?_
      refine v_iload cx dX6_removeEntry_120 4 rfl ?_
      refine v_iadd cx dX6_removeEntry_122 ?_
      refine v_iald cx dX6_removeEntry_123 1 rfl h (fun h => ?_)
      exact v_ireturn cx rfl dX6_removeEntry_124 ⟨_, _, _, _, _, rfl, rfl, h⟩
abbrev rm_X6_entriesOf : Room := { frames := 0, cells := 0, slots := 0, locals := 0 }
set_option maxHeartbeats 4000000 in
set_option maxRecDepth 100000 in
theorem c_X6_entriesOf (l : Launch) (g : gT) (D : va_G) (cy : Nat → ClassId) (q_t q_t_m q_t_saved q_t_text q_t_read q_t_counts q_t_scores q_t_isIn q_t_order q_t_row q_t_listing : Nat) {t_savedCount : Int32} {t_textLength : Int32} {t_code : Int32} {t_at : Int32} {t_number : Int32} {t_ranked : Int32} {t_emptySide : Int32} {t_listingLength : Int32} {t_hash : Int64} {t_m : Nat → Int32} {x1 : Int32} {N : Nat} {Q : Int32 → Prop} (h : p_X6_entriesOf N t_savedCount t_textLength t_code t_at t_number t_ranked t_emptySide t_listingLength t_hash t_m x1 Q) : UC l yX6_entriesOf cX6_entriesOf 2 (some .int) rm_X6_entriesOf g D cy [.ref q_t, .int x1] [(q_t, .inr (6, [.ref q_t_m, .ref q_t_saved, .int t_savedCount, .ref q_t_text, .int t_textLength, .int t_code, .int t_at, .ref q_t_read, .int t_number, .ref q_t_counts, .ref q_t_scores, .ref q_t_isIn, .ref q_t_order, .int t_ranked, .int t_emptySide, .ref q_t_row, .ref q_t_listing, .int t_listingLength, .long t_hash])), (q_t_m, .inl (cy 0, 378, .inl t_m))] (fun v w => w = [(q_t, .inr (6, [.ref q_t_m, .ref q_t_saved, .int t_savedCount, .ref q_t_text, .int t_textLength, .int t_code, .int t_at, .ref q_t_read, .int t_number, .ref q_t_counts, .ref q_t_scores, .ref q_t_isIn, .ref q_t_order, .int t_ranked, .int t_emptySide, .ref q_t_row, .ref q_t_listing, .int t_listingLength, .long t_hash])), (q_t_m, .inl (cy 0, 378, .inl t_m))] ∧ ∃ r : Int32, v = some (.int r) ∧ Q r) := by
  refine UC_of (by decide +kernel) (Nat.le_of_ble_eq_true rfl) [(0, .ref q_t), (1, .int x1)] rfl (fun p e s m args below meth c A cx => ?_)
  unfold p_X6_entriesOf at h
  refine v_aload_n cx dX6_entriesOf_0 rfl 0 rfl ?_
  refine g_X6_7 cx dX6_entriesOf_1 0 rfl rfl ?_
  refine v_iconst (v := 4) cx dX6_entriesOf_4 (by decide) ?_
  refine v_iconst (v := 3) cx dX6_entriesOf_5 (by decide) ?_
  refine v_iload_n cx dX6_entriesOf_6 rfl 1 rfl ?_
  refine v_imul cx dX6_entriesOf_7 ?_
  refine v_iadd cx dX6_entriesOf_8 ?_
  refine v_iald cx dX6_entriesOf_9 1 rfl h (fun h => ?_)
  refine v_aload_n cx dX6_entriesOf_10 rfl 0 rfl ?_
  refine g_X6_7 cx dX6_entriesOf_11 0 rfl rfl ?_
  refine v_iconst (v := 4) cx dX6_entriesOf_14 (by decide) ?_
  refine v_iconst (v := 3) cx dX6_entriesOf_15 (by decide) ?_
  refine v_iload_n cx dX6_entriesOf_16 rfl 1 rfl ?_
  refine v_imul cx dX6_entriesOf_17 ?_
  refine v_iadd cx dX6_entriesOf_18 ?_
  refine v_iconst (v := 1) cx dX6_entriesOf_19 (by decide) ?_
  refine v_iadd cx dX6_entriesOf_20 ?_
  refine v_iald cx dX6_entriesOf_21 1 rfl h (fun h => ?_)
  refine v_iadd cx dX6_entriesOf_22 ?_
  refine v_aload_n cx dX6_entriesOf_23 rfl 0 rfl ?_
  refine g_X6_7 cx dX6_entriesOf_24 0 rfl rfl ?_
  refine v_iconst (v := 4) cx dX6_entriesOf_27 (by decide) ?_
  refine v_iconst (v := 3) cx dX6_entriesOf_28 (by decide) ?_
  refine v_iload_n cx dX6_entriesOf_29 rfl 1 rfl ?_
  refine v_imul cx dX6_entriesOf_30 ?_
  refine v_iadd cx dX6_entriesOf_31 ?_
  refine v_iconst (v := 2) cx dX6_entriesOf_32 (by decide) ?_
  refine v_iadd cx dX6_entriesOf_33 ?_
  refine v_iald cx dX6_entriesOf_34 1 rfl h (fun h => ?_)
  refine v_iadd cx dX6_entriesOf_35 ?_
  exact v_ireturn cx rfl dX6_entriesOf_36 ⟨rfl, _, rfl, h⟩
abbrev rm_X6_exchange : Room := { frames := 0, cells := 0, slots := 0, locals := 0 }
set_option maxHeartbeats 4000000 in
set_option maxRecDepth 100000 in
theorem c_X6_exchange (l : Launch) (g : gT) (D : va_G) (cy : Nat → ClassId) (q_t q_t_m q_t_saved q_t_text q_t_read q_t_counts q_t_scores q_t_isIn q_t_order q_t_row q_t_listing : Nat) {t_savedCount : Int32} {t_textLength : Int32} {t_code : Int32} {t_at : Int32} {t_number : Int32} {t_ranked : Int32} {t_emptySide : Int32} {t_listingLength : Int32} {t_hash : Int64} {t_m : Nat → Int32} {x1 : Int32} {x2 : Int32} {N : Nat} {Q : (Nat → Int32) → Prop} (h : p_X6_exchange N t_savedCount t_textLength t_code t_at t_number t_ranked t_emptySide t_listingLength t_hash t_m x1 x2 Q) : UC l yX6_exchange cX6_exchange 4 none rm_X6_exchange g D cy [.ref q_t, .int x1, .int x2] [(q_t, .inr (6, [.ref q_t_m, .ref q_t_saved, .int t_savedCount, .ref q_t_text, .int t_textLength, .int t_code, .int t_at, .ref q_t_read, .int t_number, .ref q_t_counts, .ref q_t_scores, .ref q_t_isIn, .ref q_t_order, .int t_ranked, .int t_emptySide, .ref q_t_row, .ref q_t_listing, .int t_listingLength, .long t_hash])), (q_t_m, .inl (cy 0, 378, .inl t_m))] (fun v w => ∃ (t_m' : Nat → Int32), v = none ∧ w = [(q_t, .inr (6, [.ref q_t_m, .ref q_t_saved, .int t_savedCount, .ref q_t_text, .int t_textLength, .int t_code, .int t_at, .ref q_t_read, .int t_number, .ref q_t_counts, .ref q_t_scores, .ref q_t_isIn, .ref q_t_order, .int t_ranked, .int t_emptySide, .ref q_t_row, .ref q_t_listing, .int t_listingLength, .long t_hash])), (q_t_m, .inl (cy 0, 378, .inl t_m'))] ∧ Q t_m') := by
  refine UC_of (by decide +kernel) (Nat.le_of_ble_eq_true rfl) [(0, .ref q_t), (1, .int x1), (2, .int x2)] rfl (fun p e s m args below meth c A cx => ?_)
  unfold p_X6_exchange at h
  refine v_aload_n cx dX6_exchange_0 rfl 0 rfl ?_
  refine g_X6_7 cx dX6_exchange_1 0 rfl rfl ?_
  refine v_iload_n cx dX6_exchange_4 rfl 1 rfl ?_
  refine v_iald cx dX6_exchange_5 1 rfl h (fun h => ?_)
  refine v_istore_n (lv' := [(3, .int (t_m x1.toNatClampNeg)), (0, .ref q_t), (1, .int x1), (2, .int x2)]) cx dX6_exchange_6 rfl (by decide) rfl ?_
  refine v_aload_n cx dX6_exchange_7 rfl 1 rfl ?_
  refine g_X6_7 cx dX6_exchange_8 0 rfl rfl ?_
  refine v_iload_n cx dX6_exchange_11 rfl 2 rfl ?_
  refine v_aload_n cx dX6_exchange_12 rfl 1 rfl ?_
  refine g_X6_7 cx dX6_exchange_13 0 rfl rfl ?_
  refine v_iload_n cx dX6_exchange_16 rfl 3 rfl ?_
  refine v_iald cx dX6_exchange_17 1 rfl h (fun h => ?_)
  refine v_iast (ws' := [(q_t, .inr (6, [.ref q_t_m, .ref q_t_saved, .int t_savedCount, .ref q_t_text, .int t_textLength, .int t_code, .int t_at, .ref q_t_read, .int t_number, .ref q_t_counts, .ref q_t_scores, .ref q_t_isIn, .ref q_t_order, .int t_ranked, .int t_emptySide, .ref q_t_row, .ref q_t_listing, .int t_listingLength, .long t_hash])), (q_t_m, .inl (cy 0, 378, .inl (upd t_m x1.toNatClampNeg (t_m x2.toNatClampNeg))))]) cx dX6_exchange_18 1 rfl h rfl (fun h => ?_)
  refine v_aload_n cx dX6_exchange_19 rfl 1 rfl ?_
  refine g_X6_7 cx dX6_exchange_20 0 rfl rfl ?_
  refine v_iload_n cx dX6_exchange_23 rfl 3 rfl ?_
  refine v_iload_n cx dX6_exchange_24 rfl 0 rfl ?_
  refine v_iast (ws' := [(q_t, .inr (6, [.ref q_t_m, .ref q_t_saved, .int t_savedCount, .ref q_t_text, .int t_textLength, .int t_code, .int t_at, .ref q_t_read, .int t_number, .ref q_t_counts, .ref q_t_scores, .ref q_t_isIn, .ref q_t_order, .int t_ranked, .int t_emptySide, .ref q_t_row, .ref q_t_listing, .int t_listingLength, .long t_hash])), (q_t_m, .inl (cy 0, 378, .inl (upd (upd t_m x1.toNatClampNeg (t_m x2.toNatClampNeg)) x2.toNatClampNeg (t_m x1.toNatClampNeg))))]) cx dX6_exchange_25 1 rfl h rfl (fun h => ?_)
  exact v_return cx dX6_exchange_26 ⟨_, rfl, rfl, h⟩
abbrev rm_X6_swapSides : Room := { frames := 1, cells := 0, slots := 0, locals := 23 }
set_option maxHeartbeats 4000000 in
set_option maxRecDepth 100000 in
theorem w_X6_swapSides_11 {p : Program} {l : Launch} {e : Env} {s : State} {m : MethodId} {args : Array Value} {below : List Frame} {meth : Method} {c : Code} {Q9 : State → Prop} {mn : String} {Ts : List Cond} {D : va_G} {cy : Nat → ClassId} {g : gT} {A : Nat → Prop} (cx : vC p s m args meth c cX6_swapSides 2 (some .int) RX6 mn Ts D cy g A) (q_t q_t_m q_t_saved q_t_text q_t_read q_t_counts q_t_scores q_t_isIn q_t_order q_t_row q_t_listing : Nat) {t_savedCount : Int32} {t_textLength : Int32} {t_code : Int32} {t_at : Int32} {t_number : Int32} {t_ranked : Int32} {t_emptySide : Int32} {t_listingLength : Int32} {t_hash : Int64} {t_saved : Nat → Int32} {N : Nat} {K33 : Int32 → (Nat → Int32) → Prop} (hK33 : ∀ (x1 : Int32) (t_m : Nat → Int32), K33 x1 t_m → vV p l e rm_X6_swapSides s m args below meth c Q9 2 D A 0 0 [(q_t, .inr (6, [.ref q_t_m, .ref q_t_saved, .int t_savedCount, .ref q_t_text, .int t_textLength, .int t_code, .int t_at, .ref q_t_read, .int t_number, .ref q_t_counts, .ref q_t_scores, .ref q_t_isIn, .ref q_t_order, .int t_ranked, .int t_emptySide, .ref q_t_row, .ref q_t_listing, .int t_listingLength, .long t_hash])), (q_t_m, .inl (cy 0, 378, .inl t_m)), (q_t_saved, .inl (cy 0, 1512, .inl t_saved))] 33 [(0, .ref q_t), (1, .int x1)] []) : ∀ (n : Nat) (x1 : Int32) (t_m : Nat → Int32), p_X6_swapSides_11 N t_savedCount t_textLength t_code t_at t_number t_ranked t_emptySide t_listingLength t_hash t_saved K33 n x1 t_m → vV p l e rm_X6_swapSides s m args below meth c Q9 2 D A 0 0 [(q_t, .inr (6, [.ref q_t_m, .ref q_t_saved, .int t_savedCount, .ref q_t_text, .int t_textLength, .int t_code, .int t_at, .ref q_t_read, .int t_number, .ref q_t_counts, .ref q_t_scores, .ref q_t_isIn, .ref q_t_order, .int t_ranked, .int t_emptySide, .ref q_t_row, .ref q_t_listing, .int t_listingLength, .long t_hash])), (q_t_m, .inl (cy 0, 378, .inl t_m)), (q_t_saved, .inl (cy 0, 1512, .inl t_saved))] 11 [(0, .ref q_t), (1, .int x1)] [] := by
  intro n
  induction n with
  | zero => intro x1 t_m h; exact False.elim h
  | succ n ih =>
    intro x1 t_m h
    unfold p_X6_swapSides_11 at h
    refine v_iload_n cx dX6_swapSides_11 rfl 1 rfl ?_
    refine v_iconst (v := 3) cx dX6_swapSides_12 (by decide) ?_
    refine v_icmp_ge (tgt := 33) cx dX6_swapSides_13 (by decide) h (fun h => ?_) (fun h => ?_)
    · refine v_lv (lv' := [(0, .ref q_t), (1, .int x1)]) [0, 1] rfl ?_
      exact hK33 _ _ h
    · refine v_aload_n cx dX6_swapSides_16 rfl 0 rfl ?_
      refine v_iconst (v := 4) cx dX6_swapSides_17 (by decide) ?_
      refine v_iload_n cx dX6_swapSides_18 rfl 1 rfl ?_
      refine v_iadd cx dX6_swapSides_19 ?_
      refine v_bipush (v := 7) cx dX6_swapSides_20 (by decide) ?_
      refine v_iload_n cx dX6_swapSides_22 rfl 1 rfl ?_
      refine v_iadd cx dX6_swapSides_23 ?_
      refine v_callV (As := [.int (4 + x1), .int (7 + x1)]) cx (c_X6_exchange l g D cy q_t q_t_m q_t_saved q_t_text q_t_read q_t_counts q_t_scores q_t_isIn q_t_order q_t_row q_t_listing h) k_X6_134 (by decide) (by decide) rfl rfl (Nat.le_of_ble_eq_true rfl) dX6_swapSides_24 [0, 1] [2] (by decide) rfl rfl rfl (q0 := 0) rfl rfl (fun v9 w9 hp => ?_)
      obtain ⟨u_3, rfl, rfl, h⟩ := hp
      refine v_afterJ (ws' := [(q_t, .inr (6, [.ref q_t_m, .ref q_t_saved, .int t_savedCount, .ref q_t_text, .int t_textLength, .int t_code, .int t_at, .ref q_t_read, .int t_number, .ref q_t_counts, .ref q_t_scores, .ref q_t_isIn, .ref q_t_order, .int t_ranked, .int t_emptySide, .ref q_t_row, .ref q_t_listing, .int t_listingLength, .long t_hash])), (q_t_m, .inl (cy 0, 378, .inl u_3)), (q_t_saved, .inl (cy 0, 1512, .inl t_saved))]) (st' := []) (ce := 0) (sl := 0) 3 [3, 4, 2] (by decide +kernel) (by decide +kernel) rfl rfl ⟨rfl, rfl⟩ ?_
      refine v_iinc (v := x1 + 1) (k0 := 1) (lv' := [(1, .int (x1 + 1)), (0, .ref q_t)]) cx dX6_swapSides_27 rfl rfl (by decide) rfl ?_
      refine v_goto (tgt := 11) cx dX6_swapSides_30 (by decide) ?_
      refine v_lv (lv' := [(0, .ref q_t), (1, .int (x1 + 1))]) [1, 0] rfl ?_
      exact ih _ _ h
set_option maxHeartbeats 4000000 in
set_option maxRecDepth 100000 in
theorem w_X6_swapSides_35 {p : Program} {l : Launch} {e : Env} {s : State} {m : MethodId} {args : Array Value} {below : List Frame} {meth : Method} {c : Code} {Q9 : State → Prop} {mn : String} {Ts : List Cond} {D : va_G} {cy : Nat → ClassId} {g : gT} {A : Nat → Prop} (cx : vC p s m args meth c cX6_swapSides 2 (some .int) RX6 mn Ts D cy g A) (q_t q_t_m q_t_saved q_t_text q_t_read q_t_counts q_t_scores q_t_isIn q_t_order q_t_row q_t_listing : Nat) {t_savedCount : Int32} {t_textLength : Int32} {t_code : Int32} {t_at : Int32} {t_number : Int32} {t_ranked : Int32} {t_emptySide : Int32} {t_listingLength : Int32} {t_hash : Int64} {t_saved : Nat → Int32} {N : Nat} {K61 : Int32 → (Nat → Int32) → Prop} (hK61 : ∀ (x1 : Int32) (t_m : Nat → Int32), K61 x1 t_m → vV p l e rm_X6_swapSides s m args below meth c Q9 2 D A 0 0 [(q_t, .inr (6, [.ref q_t_m, .ref q_t_saved, .int t_savedCount, .ref q_t_text, .int t_textLength, .int t_code, .int t_at, .ref q_t_read, .int t_number, .ref q_t_counts, .ref q_t_scores, .ref q_t_isIn, .ref q_t_order, .int t_ranked, .int t_emptySide, .ref q_t_row, .ref q_t_listing, .int t_listingLength, .long t_hash])), (q_t_m, .inl (cy 0, 378, .inl t_m)), (q_t_saved, .inl (cy 0, 1512, .inl t_saved))] 61 [(0, .ref q_t), (1, .int x1)] []) : ∀ (n : Nat) (x1 : Int32) (t_m : Nat → Int32), p_X6_swapSides_35 N t_savedCount t_textLength t_code t_at t_number t_ranked t_emptySide t_listingLength t_hash t_saved K61 n x1 t_m → vV p l e rm_X6_swapSides s m args below meth c Q9 2 D A 0 0 [(q_t, .inr (6, [.ref q_t_m, .ref q_t_saved, .int t_savedCount, .ref q_t_text, .int t_textLength, .int t_code, .int t_at, .ref q_t_read, .int t_number, .ref q_t_counts, .ref q_t_scores, .ref q_t_isIn, .ref q_t_order, .int t_ranked, .int t_emptySide, .ref q_t_row, .ref q_t_listing, .int t_listingLength, .long t_hash])), (q_t_m, .inl (cy 0, 378, .inl t_m)), (q_t_saved, .inl (cy 0, 1512, .inl t_saved))] 35 [(0, .ref q_t), (1, .int x1)] [] := by
  intro n
  induction n with
  | zero => intro x1 t_m h; exact False.elim h
  | succ n ih =>
    intro x1 t_m h
    unfold p_X6_swapSides_35 at h
    refine v_iload_n cx dX6_swapSides_35 rfl 1 rfl ?_
    refine v_bipush (v := 120) cx dX6_swapSides_36 (by decide) ?_
    refine v_icmp_ge (tgt := 61) cx dX6_swapSides_38 (by decide) h (fun h => ?_) (fun h => ?_)
    · refine v_lv (lv' := [(0, .ref q_t), (1, .int x1)]) [0, 1] rfl ?_
      exact hK61 _ _ h
    · refine v_aload_n cx dX6_swapSides_41 rfl 0 rfl ?_
      refine v_sipush (v := 138) cx dX6_swapSides_42 (by decide) ?_
      refine v_iload_n cx dX6_swapSides_45 rfl 1 rfl ?_
      refine v_iadd cx dX6_swapSides_46 ?_
      refine v_sipush (v := 258) cx dX6_swapSides_47 (by decide) ?_
      refine v_iload_n cx dX6_swapSides_50 rfl 1 rfl ?_
      refine v_iadd cx dX6_swapSides_51 ?_
      refine v_callV (As := [.int (138 + x1), .int (258 + x1)]) cx (c_X6_exchange l g D cy q_t q_t_m q_t_saved q_t_text q_t_read q_t_counts q_t_scores q_t_isIn q_t_order q_t_row q_t_listing h) k_X6_134 (by decide) (by decide) rfl rfl (Nat.le_of_ble_eq_true rfl) dX6_swapSides_52 [0, 1] [2] (by decide) rfl rfl rfl (q0 := 0) rfl rfl (fun v9 w9 hp => ?_)
      obtain ⟨u_6, rfl, rfl, h⟩ := hp
      refine v_afterJ (ws' := [(q_t, .inr (6, [.ref q_t_m, .ref q_t_saved, .int t_savedCount, .ref q_t_text, .int t_textLength, .int t_code, .int t_at, .ref q_t_read, .int t_number, .ref q_t_counts, .ref q_t_scores, .ref q_t_isIn, .ref q_t_order, .int t_ranked, .int t_emptySide, .ref q_t_row, .ref q_t_listing, .int t_listingLength, .long t_hash])), (q_t_m, .inl (cy 0, 378, .inl u_6)), (q_t_saved, .inl (cy 0, 1512, .inl t_saved))]) (st' := []) (ce := 0) (sl := 0) 3 [3, 4, 2] (by decide +kernel) (by decide +kernel) rfl rfl ⟨rfl, rfl⟩ ?_
      refine v_iinc (v := x1 + 1) (k0 := 1) (lv' := [(1, .int (x1 + 1)), (0, .ref q_t)]) cx dX6_swapSides_55 rfl rfl (by decide) rfl ?_
      refine v_goto (tgt := 35) cx dX6_swapSides_58 (by decide) ?_
      refine v_lv (lv' := [(0, .ref q_t), (1, .int (x1 + 1))]) [1, 0] rfl ?_
      exact ih _ _ h
set_option maxHeartbeats 4000000 in
set_option maxRecDepth 100000 in
theorem c_X6_swapSides (l : Launch) (g : gT) (D : va_G) (cy : Nat → ClassId) (q_t q_t_m q_t_saved q_t_text q_t_read q_t_counts q_t_scores q_t_isIn q_t_order q_t_row q_t_listing : Nat) {t_savedCount : Int32} {t_textLength : Int32} {t_code : Int32} {t_at : Int32} {t_number : Int32} {t_ranked : Int32} {t_emptySide : Int32} {t_listingLength : Int32} {t_hash : Int64} {t_m : Nat → Int32} {t_saved : Nat → Int32} {N : Nat} {Q : Int32 → Int32 → Int32 → (Nat → Int32) → (Nat → Int32) → Prop} (h : p_X6_swapSides N t_savedCount t_textLength t_code t_at t_number t_ranked t_emptySide t_listingLength t_hash t_m t_saved Q) : UC l yX6_swapSides cX6_swapSides 2 (some .int) rm_X6_swapSides g D cy [.ref q_t] [(q_t, .inr (6, [.ref q_t_m, .ref q_t_saved, .int t_savedCount, .ref q_t_text, .int t_textLength, .int t_code, .int t_at, .ref q_t_read, .int t_number, .ref q_t_counts, .ref q_t_scores, .ref q_t_isIn, .ref q_t_order, .int t_ranked, .int t_emptySide, .ref q_t_row, .ref q_t_listing, .int t_listingLength, .long t_hash])), (q_t_m, .inl (cy 0, 378, .inl t_m)), (q_t_saved, .inl (cy 0, 1512, .inl t_saved))] (fun v w => ∃ (r : Int32) (t_savedCount' : Int32) (t_code' : Int32) (t_m' : Nat → Int32) (t_saved' : Nat → Int32), v = some (.int r) ∧ w = [(q_t, .inr (6, [.ref q_t_m, .ref q_t_saved, .int t_savedCount', .ref q_t_text, .int t_textLength, .int t_code', .int t_at, .ref q_t_read, .int t_number, .ref q_t_counts, .ref q_t_scores, .ref q_t_isIn, .ref q_t_order, .int t_ranked, .int t_emptySide, .ref q_t_row, .ref q_t_listing, .int t_listingLength, .long t_hash])), (q_t_m, .inl (cy 0, 378, .inl t_m')), (q_t_saved, .inl (cy 0, 1512, .inl t_saved'))] ∧ Q r t_savedCount' t_code' t_m' t_saved') := by
  refine UC_of (by decide +kernel) (Nat.le_of_ble_eq_true rfl) [(0, .ref q_t)] rfl (fun p e s m args below meth c A cx => ?_)
  unfold p_X6_swapSides at h
  refine v_aload_n cx dX6_swapSides_0 rfl 0 rfl ?_
  refine v_iconst (v := 0) cx dX6_swapSides_1 (by decide) ?_
  refine p_X6_45 (ws' := [(q_t, .inr (6, [.ref q_t_m, .ref q_t_saved, .int t_savedCount, .ref q_t_text, .int t_textLength, .int 0, .int t_at, .ref q_t_read, .int t_number, .ref q_t_counts, .ref q_t_scores, .ref q_t_isIn, .ref q_t_order, .int t_ranked, .int t_emptySide, .ref q_t_row, .ref q_t_listing, .int t_listingLength, .long t_hash])), (q_t_m, .inl (cy 0, 378, .inl t_m)), (q_t_saved, .inl (cy 0, 1512, .inl t_saved))]) cx dX6_swapSides_2 0 rfl rfl rfl (Nat.le_of_ble_eq_true rfl) rfl ?_
  refine v_aload_n cx dX6_swapSides_5 rfl 0 rfl ?_
  refine v_callV (As := []) cx (c_X6_keep l g D cy q_t q_t_m q_t_saved q_t_text q_t_read q_t_counts q_t_scores q_t_isIn q_t_order q_t_row q_t_listing h) k_X6_115 (by decide) (by decide) rfl rfl (Nat.le_of_ble_eq_true rfl) dX6_swapSides_6 [0, 1, 2] [] (by decide) rfl rfl rfl (q0 := 0) rfl rfl (fun v9 w9 hp => ?_)
  obtain ⟨u_1, u_2, rfl, rfl, h⟩ := hp
  refine v_afterJ (ws' := [(q_t, .inr (6, [.ref q_t_m, .ref q_t_saved, .int u_1, .ref q_t_text, .int t_textLength, .int 0, .int t_at, .ref q_t_read, .int t_number, .ref q_t_counts, .ref q_t_scores, .ref q_t_isIn, .ref q_t_order, .int t_ranked, .int t_emptySide, .ref q_t_row, .ref q_t_listing, .int t_listingLength, .long t_hash])), (q_t_m, .inl (cy 0, 378, .inl t_m)), (q_t_saved, .inl (cy 0, 1512, .inl u_2))]) (st' := []) (ce := 0) (sl := 0) 3 [3, 4, 5] (by decide +kernel) (by decide +kernel) rfl rfl ⟨rfl, rfl⟩ ?_
  refine v_iconst (v := 0) cx dX6_swapSides_9 (by decide) ?_
  refine v_istore_n (lv' := [(1, .int 0), (0, .ref q_t)]) cx dX6_swapSides_10 rfl (by decide) rfl ?_
  refine v_lv (lv' := [(0, .ref q_t), (1, .int 0)]) [1, 0] rfl ?_
  refine w_X6_swapSides_11 cx q_t q_t_m q_t_saved q_t_text q_t_read q_t_counts q_t_scores q_t_isIn q_t_order q_t_row q_t_listing ?_ N _ _ h
  · intro x1_4 t_m_5 h
    refine v_iconst (v := 0) cx dX6_swapSides_33 (by decide) ?_
    refine v_istore_n (lv' := [(1, .int 0), (0, .ref q_t)]) cx dX6_swapSides_34 rfl (by decide) rfl ?_
    refine v_lv (lv' := [(0, .ref q_t), (1, .int 0)]) [1, 0] rfl ?_
    refine w_X6_swapSides_35 cx q_t q_t_m q_t_saved q_t_text q_t_read q_t_counts q_t_scores q_t_isIn q_t_order q_t_row q_t_listing ?_ N _ _ h
    · intro x1_7 t_m_8 h
      refine v_aload_n cx dX6_swapSides_61 rfl 0 rfl ?_
      refine v_iconst (v := 0) cx dX6_swapSides_62 (by decide) ?_
      refine v_callVpi (As := [.int 0]) cx (c_X6_entriesOf l g D cy q_t q_t_m q_t_saved q_t_text q_t_read q_t_counts q_t_scores q_t_isIn q_t_order q_t_row q_t_listing h) k_X6_138 (by decide) ⟨rfl, rfl⟩ (by decide) rfl rfl (Nat.le_of_ble_eq_true rfl) dX6_swapSides_63 [0, 1] [2] (by decide) (vj_all 3 rfl (by decide +kernel)) rfl rfl rfl (q0 := 0) rfl rfl (fun r_9 h => ?_)
      exact v_ireturn cx rfl dX6_swapSides_66 ⟨_, _, _, _, _, rfl, rfl, h⟩

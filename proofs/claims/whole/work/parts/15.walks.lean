abbrev rm_X6_setTies : Room := { frames := 1, cells := 0, slots := 0, locals := 22 }
set_option maxHeartbeats 4000000 in
set_option maxRecDepth 100000 in
theorem c_X6_setTies (l : Launch) (g : gT) (D : va_G) (cy : Nat → ClassId) (q_t q_t_m q_t_saved q_t_text q_t_read q_t_counts q_t_scores q_t_isIn q_t_order q_t_row q_t_listing : Nat) {t_savedCount : Int32} {t_textLength : Int32} {t_code : Int32} {t_at : Int32} {t_number : Int32} {t_ranked : Int32} {t_emptySide : Int32} {t_listingLength : Int32} {t_hash : Int64} {t_m : Nat → Int32} {t_saved : Nat → Int32} {x1 : Int32} {x2 : Int32} {x3 : Int32} {N : Nat} {Q : Int32 → Int32 → Int32 → (Nat → Int32) → (Nat → Int32) → Prop} (h : p_X6_setTies N t_savedCount t_textLength t_code t_at t_number t_ranked t_emptySide t_listingLength t_hash t_m t_saved x1 x2 x3 Q) : UC l yX6_setTies cX6_setTies 5 (some .int) rm_X6_setTies g D cy [.ref q_t, .int x1, .int x2, .int x3] [(q_t, .inr (6, [.ref q_t_m, .ref q_t_saved, .int t_savedCount, .ref q_t_text, .int t_textLength, .int t_code, .int t_at, .ref q_t_read, .int t_number, .ref q_t_counts, .ref q_t_scores, .ref q_t_isIn, .ref q_t_order, .int t_ranked, .int t_emptySide, .ref q_t_row, .ref q_t_listing, .int t_listingLength, .long t_hash])), (q_t_m, .inl (cy 0, 378, .inl t_m)), (q_t_saved, .inl (cy 0, 1512, .inl t_saved))] (fun v w => ∃ (r : Int32) (t_savedCount' : Int32) (t_code' : Int32) (t_m' : Nat → Int32) (t_saved' : Nat → Int32), v = some (.int r) ∧ w = [(q_t, .inr (6, [.ref q_t_m, .ref q_t_saved, .int t_savedCount', .ref q_t_text, .int t_textLength, .int t_code', .int t_at, .ref q_t_read, .int t_number, .ref q_t_counts, .ref q_t_scores, .ref q_t_isIn, .ref q_t_order, .int t_ranked, .int t_emptySide, .ref q_t_row, .ref q_t_listing, .int t_listingLength, .long t_hash])), (q_t_m, .inl (cy 0, 378, .inl t_m')), (q_t_saved, .inl (cy 0, 1512, .inl t_saved'))] ∧ Q r t_savedCount' t_code' t_m' t_saved') := by
  refine UC_of (by decide +kernel) (Nat.le_of_ble_eq_true rfl) [(0, .ref q_t), (1, .int x1), (2, .int x2), (3, .int x3)] rfl (fun p e s m args below meth c A cx => ?_)
  unfold p_X6_setTies at h
  refine v_aload_n cx dX6_setTies_0 rfl 0 rfl ?_
  refine v_iload_n cx dX6_setTies_1 rfl 1 rfl ?_
  refine v_iconst (v := 0) cx dX6_setTies_2 (by decide) ?_
  refine v_iconst (v := 5) cx dX6_setTies_3 (by decide) ?_
  refine v_callSpi (As := [.int x1, .int 0, .int 5]) cx (c_X6_in l g D cy  h) k_X6_51 (by decide) ⟨rfl, rfl⟩ (by decide) rfl rfl (Nat.le_of_ble_eq_true rfl) dX6_setTies_4 [] [0, 1, 2] (by decide) (vj_all 3 rfl (by decide +kernel)) rfl rfl rfl (fun r_1 h => ?_)
  refine v_if_eq (tgt := 32) cx dX6_setTies_7 (by decide) h (fun h => ?_) (fun h => ?_)
  · refine v_iconst (v := 1) cx dX6_setTies_32 (by decide) ?_
    refine p_X6_45 (ws' := [(q_t, .inr (6, [.ref q_t_m, .ref q_t_saved, .int t_savedCount, .ref q_t_text, .int t_textLength, .int 1, .int t_at, .ref q_t_read, .int t_number, .ref q_t_counts, .ref q_t_scores, .ref q_t_isIn, .ref q_t_order, .int t_ranked, .int t_emptySide, .ref q_t_row, .ref q_t_listing, .int t_listingLength, .long t_hash])), (q_t_m, .inl (cy 0, 378, .inl t_m)), (q_t_saved, .inl (cy 0, 1512, .inl t_saved))]) cx dX6_setTies_33 0 rfl rfl rfl (Nat.le_of_ble_eq_true rfl) rfl ?_
    refine v_aload_n cx dX6_setTies_36 rfl 0 rfl ?_
    refine g_X6_45 cx dX6_setTies_37 0 rfl rfl ?_
    refine v_if_eq (tgt := 45) (P1 := False) (P2 := True) cx dX6_setTies_40 (by decide) (by decide) (fun z => z.elim) (fun _ => ?_)
    refine v_iconst (v := 0) cx dX6_setTies_43 (by decide) ?_
    exact v_ireturn cx rfl dX6_setTies_44 ⟨_, _, _, _, _, rfl, rfl, h⟩
  · refine v_iload_n cx dX6_setTies_10 rfl 2 rfl ?_
    refine v_iconst (v := 0) cx dX6_setTies_11 (by decide) ?_
    refine v_iconst (v := 5) cx dX6_setTies_12 (by decide) ?_
    refine v_callSpi (As := [.int x2, .int 0, .int 5]) cx (c_X6_in l g D cy  h) k_X6_51 (by decide) ⟨rfl, rfl⟩ (by decide) rfl rfl (Nat.le_of_ble_eq_true rfl) dX6_setTies_13 [] [0, 1, 2] (by decide) (vj_all 3 rfl (by decide +kernel)) rfl rfl rfl (fun r_2 h => ?_)
    refine v_if_eq (tgt := 32) cx dX6_setTies_16 (by decide) h (fun h => ?_) (fun h => ?_)
    · refine v_iconst (v := 1) cx dX6_setTies_32 (by decide) ?_
      refine p_X6_45 (ws' := [(q_t, .inr (6, [.ref q_t_m, .ref q_t_saved, .int t_savedCount, .ref q_t_text, .int t_textLength, .int 1, .int t_at, .ref q_t_read, .int t_number, .ref q_t_counts, .ref q_t_scores, .ref q_t_isIn, .ref q_t_order, .int t_ranked, .int t_emptySide, .ref q_t_row, .ref q_t_listing, .int t_listingLength, .long t_hash])), (q_t_m, .inl (cy 0, 378, .inl t_m)), (q_t_saved, .inl (cy 0, 1512, .inl t_saved))]) cx dX6_setTies_33 0 rfl rfl rfl (Nat.le_of_ble_eq_true rfl) rfl ?_
      refine v_aload_n cx dX6_setTies_36 rfl 0 rfl ?_
      refine g_X6_45 cx dX6_setTies_37 0 rfl rfl ?_
      refine v_if_eq (tgt := 45) (P1 := False) (P2 := True) cx dX6_setTies_40 (by decide) (by decide) (fun z => z.elim) (fun _ => ?_)
      refine v_iconst (v := 0) cx dX6_setTies_43 (by decide) ?_
      exact v_ireturn cx rfl dX6_setTies_44 ⟨_, _, _, _, _, rfl, rfl, h⟩
    · refine v_iload_n cx dX6_setTies_19 rfl 3 rfl ?_
      refine v_iconst (v := 0) cx dX6_setTies_20 (by decide) ?_
      refine v_iconst (v := 5) cx dX6_setTies_21 (by decide) ?_
      refine v_callSpi (As := [.int x3, .int 0, .int 5]) cx (c_X6_in l g D cy  h) k_X6_51 (by decide) ⟨rfl, rfl⟩ (by decide) rfl rfl (Nat.le_of_ble_eq_true rfl) dX6_setTies_22 [] [0, 1, 2] (by decide) (vj_all 3 rfl (by decide +kernel)) rfl rfl rfl (fun r_3 h => ?_)
      refine v_if_eq (tgt := 32) cx dX6_setTies_25 (by decide) h (fun h => ?_) (fun h => ?_)
      · refine v_iconst (v := 1) cx dX6_setTies_32 (by decide) ?_
        refine p_X6_45 (ws' := [(q_t, .inr (6, [.ref q_t_m, .ref q_t_saved, .int t_savedCount, .ref q_t_text, .int t_textLength, .int 1, .int t_at, .ref q_t_read, .int t_number, .ref q_t_counts, .ref q_t_scores, .ref q_t_isIn, .ref q_t_order, .int t_ranked, .int t_emptySide, .ref q_t_row, .ref q_t_listing, .int t_listingLength, .long t_hash])), (q_t_m, .inl (cy 0, 378, .inl t_m)), (q_t_saved, .inl (cy 0, 1512, .inl t_saved))]) cx dX6_setTies_33 0 rfl rfl rfl (Nat.le_of_ble_eq_true rfl) rfl ?_
        refine v_aload_n cx dX6_setTies_36 rfl 0 rfl ?_
        refine g_X6_45 cx dX6_setTies_37 0 rfl rfl ?_
        refine v_if_eq (tgt := 45) (P1 := False) (P2 := True) cx dX6_setTies_40 (by decide) (by decide) (fun z => z.elim) (fun _ => ?_)
        refine v_iconst (v := 0) cx dX6_setTies_43 (by decide) ?_
        exact v_ireturn cx rfl dX6_setTies_44 ⟨_, _, _, _, _, rfl, rfl, h⟩
      · refine v_iconst (v := 0) cx dX6_setTies_28 (by decide) ?_
        refine v_goto (tgt := 33) cx dX6_setTies_29 (by decide) ?_
        refine p_X6_45 (ws' := [(q_t, .inr (6, [.ref q_t_m, .ref q_t_saved, .int t_savedCount, .ref q_t_text, .int t_textLength, .int 0, .int t_at, .ref q_t_read, .int t_number, .ref q_t_counts, .ref q_t_scores, .ref q_t_isIn, .ref q_t_order, .int t_ranked, .int t_emptySide, .ref q_t_row, .ref q_t_listing, .int t_listingLength, .long t_hash])), (q_t_m, .inl (cy 0, 378, .inl t_m)), (q_t_saved, .inl (cy 0, 1512, .inl t_saved))]) cx dX6_setTies_33 0 rfl rfl rfl (Nat.le_of_ble_eq_true rfl) rfl ?_
        refine v_aload_n cx dX6_setTies_36 rfl 0 rfl ?_
        refine g_X6_45 cx dX6_setTies_37 0 rfl rfl ?_
        refine v_if_eq (tgt := 45) (P1 := True) (P2 := False) cx dX6_setTies_40 (by decide) (by decide) (fun _ => ?_) (fun z => z.elim)
        refine v_aload_n cx dX6_setTies_45 rfl 0 rfl ?_
        refine v_callV (As := []) cx (c_X6_keep l g D cy q_t q_t_m q_t_saved q_t_text q_t_read q_t_counts q_t_scores q_t_isIn q_t_order q_t_row q_t_listing h) k_X6_115 (by decide) (by decide) rfl rfl (Nat.le_of_ble_eq_true rfl) dX6_setTies_46 [0, 1, 2] [] (by decide) rfl rfl rfl (q0 := 0) rfl rfl (fun v9 w9 hp => ?_)
        obtain ⟨u_4, u_5, rfl, rfl, h⟩ := hp
        refine v_afterJ (ws' := [(q_t, .inr (6, [.ref q_t_m, .ref q_t_saved, .int u_4, .ref q_t_text, .int t_textLength, .int 0, .int t_at, .ref q_t_read, .int t_number, .ref q_t_counts, .ref q_t_scores, .ref q_t_isIn, .ref q_t_order, .int t_ranked, .int t_emptySide, .ref q_t_row, .ref q_t_listing, .int t_listingLength, .long t_hash])), (q_t_m, .inl (cy 0, 378, .inl t_m)), (q_t_saved, .inl (cy 0, 1512, .inl u_5))]) (st' := []) (ce := 0) (sl := 0) 3 [3, 4, 5] (by decide +kernel) (by decide +kernel) rfl rfl ⟨rfl, rfl⟩ ?_
        refine v_bipush (v := 100) cx dX6_setTies_49 (by decide) ?_
        refine v_aload_n cx dX6_setTies_51 rfl 0 rfl ?_
        refine g_X6_7 cx dX6_setTies_52 0 rfl rfl ?_
        refine v_iconst (v := 1) cx dX6_setTies_55 (by decide) ?_
        refine v_iald cx dX6_setTies_56 1 rfl ⟨by unfold vp_in; decide, h⟩ (fun h => ?_)
        refine v_imul cx dX6_setTies_57 ?_
        refine v_bipush (v := 10) cx dX6_setTies_58 (by decide) ?_
        refine v_aload_n cx dX6_setTies_60 rfl 0 rfl ?_
        refine g_X6_7 cx dX6_setTies_61 0 rfl rfl ?_
        refine v_iconst (v := 2) cx dX6_setTies_64 (by decide) ?_
        refine v_iald cx dX6_setTies_65 1 rfl ⟨by unfold vp_in; decide, h⟩ (fun h => ?_)
        refine v_imul cx dX6_setTies_66 ?_
        refine v_iadd cx dX6_setTies_67 ?_
        refine v_aload_n cx dX6_setTies_68 rfl 0 rfl ?_
        refine g_X6_7 cx dX6_setTies_69 0 rfl rfl ?_
        refine v_iconst (v := 3) cx dX6_setTies_72 (by decide) ?_
        refine v_iald cx dX6_setTies_73 1 rfl ⟨by unfold vp_in; decide, h⟩ (fun h => ?_)
        refine v_iadd cx dX6_setTies_74 ?_
        refine v_istore (lv' := [(4, .int (((100 * (t_m (1 : Int32).toNatClampNeg)) + (10 * (t_m (2 : Int32).toNatClampNeg))) + (t_m (3 : Int32).toNatClampNeg))), (0, .ref q_t), (1, .int x1), (2, .int x2), (3, .int x3)]) cx dX6_setTies_75 (by decide) rfl ?_
        refine v_aload_n cx dX6_setTies_77 rfl 1 rfl ?_
        refine g_X6_7 cx dX6_setTies_78 0 rfl rfl ?_
        refine v_iconst (v := 1) cx dX6_setTies_81 (by decide) ?_
        refine v_iload_n cx dX6_setTies_82 rfl 2 rfl ?_
        refine v_iast (ws' := [(q_t, .inr (6, [.ref q_t_m, .ref q_t_saved, .int u_4, .ref q_t_text, .int t_textLength, .int 0, .int t_at, .ref q_t_read, .int t_number, .ref q_t_counts, .ref q_t_scores, .ref q_t_isIn, .ref q_t_order, .int t_ranked, .int t_emptySide, .ref q_t_row, .ref q_t_listing, .int t_listingLength, .long t_hash])), (q_t_m, .inl (cy 0, 378, .inl (upd t_m ((1 : Int32).toNatClampNeg) x1))), (q_t_saved, .inl (cy 0, 1512, .inl u_5))]) cx dX6_setTies_83 1 rfl ⟨by unfold vp_in; decide, h⟩ rfl (fun h => ?_)
        refine v_aload_n cx dX6_setTies_84 rfl 1 rfl ?_
        refine g_X6_7 cx dX6_setTies_85 0 rfl rfl ?_
        refine v_iconst (v := 2) cx dX6_setTies_88 (by decide) ?_
        refine v_iload_n cx dX6_setTies_89 rfl 3 rfl ?_
        refine v_iast (ws' := [(q_t, .inr (6, [.ref q_t_m, .ref q_t_saved, .int u_4, .ref q_t_text, .int t_textLength, .int 0, .int t_at, .ref q_t_read, .int t_number, .ref q_t_counts, .ref q_t_scores, .ref q_t_isIn, .ref q_t_order, .int t_ranked, .int t_emptySide, .ref q_t_row, .ref q_t_listing, .int t_listingLength, .long t_hash])), (q_t_m, .inl (cy 0, 378, .inl (upd (upd t_m ((1 : Int32).toNatClampNeg) x1) ((2 : Int32).toNatClampNeg) x2))), (q_t_saved, .inl (cy 0, 1512, .inl u_5))]) cx dX6_setTies_90 1 rfl ⟨by unfold vp_in; decide, h⟩ rfl (fun h => ?_)
        refine v_aload_n cx dX6_setTies_91 rfl 1 rfl ?_
        refine g_X6_7 cx dX6_setTies_92 0 rfl rfl ?_
        refine v_iconst (v := 3) cx dX6_setTies_95 (by decide) ?_
        refine v_iload_n cx dX6_setTies_96 rfl 4 rfl ?_
        refine v_iast (ws' := [(q_t, .inr (6, [.ref q_t_m, .ref q_t_saved, .int u_4, .ref q_t_text, .int t_textLength, .int 0, .int t_at, .ref q_t_read, .int t_number, .ref q_t_counts, .ref q_t_scores, .ref q_t_isIn, .ref q_t_order, .int t_ranked, .int t_emptySide, .ref q_t_row, .ref q_t_listing, .int t_listingLength, .long t_hash])), (q_t_m, .inl (cy 0, 378, .inl (upd (upd (upd t_m ((1 : Int32).toNatClampNeg) x1) ((2 : Int32).toNatClampNeg) x2) ((3 : Int32).toNatClampNeg) x3))), (q_t_saved, .inl (cy 0, 1512, .inl u_5))]) cx dX6_setTies_97 1 rfl ⟨by unfold vp_in; decide, h⟩ rfl (fun h => ?_)
        refine v_iload cx dX6_setTies_98 0 rfl ?_
        exact v_ireturn cx rfl dX6_setTies_100 ⟨_, _, _, _, _, rfl, rfl, h⟩
abbrev rm_X6_specific : Room := { frames := 1, cells := 0, slots := 0, locals := 23 }
set_option maxHeartbeats 4000000 in
set_option maxRecDepth 100000 in
theorem w_X6_specific_27 {p : Program} {l : Launch} {e : Env} {s : State} {m : MethodId} {args : Array Value} {below : List Frame} {meth : Method} {c : Code} {Q9 : State → Prop} {mn : String} {Ts : List Cond} {D : va_G} {cy : Nat → ClassId} {g : gT} {A : Nat → Prop} (cx : vC p s m args meth c cX6_specific 6 (some .int) RX6 mn Ts D cy g A) (q_t q_t_m q_t_saved q_t_text q_t_read q_t_counts q_t_scores q_t_isIn q_t_order q_t_row q_t_listing : Nat) {x1 : Int32} {x2 : Int32} {x3 : Int32} {x4 : Int32} {t_savedCount : Int32} {t_textLength : Int32} {t_code : Int32} {t_at : Int32} {t_number : Int32} {t_ranked : Int32} {t_emptySide : Int32} {t_listingLength : Int32} {t_hash : Int64} {t_m : Nat → Int32} {N : Nat} {K65 : Int32 → Prop} {K73 : Int32 → Prop} (hK65 : ∀ (x5 : Int32), K65 x5 → vV p l e rm_X6_specific s m args below meth c Q9 6 D A 0 0 [(q_t, .inr (6, [.ref q_t_m, .ref q_t_saved, .int t_savedCount, .ref q_t_text, .int t_textLength, .int t_code, .int t_at, .ref q_t_read, .int t_number, .ref q_t_counts, .ref q_t_scores, .ref q_t_isIn, .ref q_t_order, .int t_ranked, .int t_emptySide, .ref q_t_row, .ref q_t_listing, .int t_listingLength, .long t_hash])), (q_t_m, .inl (cy 0, 378, .inl t_m))] 65 [(0, .ref q_t), (1, .int x1), (2, .int x2), (3, .int x3), (4, .int x4), (5, .int x5)] []) (hK73 : ∀ (x5 : Int32), K73 x5 → vV p l e rm_X6_specific s m args below meth c Q9 6 D A 0 0 [(q_t, .inr (6, [.ref q_t_m, .ref q_t_saved, .int t_savedCount, .ref q_t_text, .int t_textLength, .int t_code, .int t_at, .ref q_t_read, .int t_number, .ref q_t_counts, .ref q_t_scores, .ref q_t_isIn, .ref q_t_order, .int t_ranked, .int t_emptySide, .ref q_t_row, .ref q_t_listing, .int t_listingLength, .long t_hash])), (q_t_m, .inl (cy 0, 378, .inl t_m))] 73 [(0, .ref q_t), (1, .int x1), (2, .int x2), (3, .int x3), (4, .int x4), (5, .int x5)] []) : ∀ (n : Nat) (x5 : Int32), p_X6_specific_27 N x1 x2 x3 x4 t_savedCount t_textLength t_code t_at t_number t_ranked t_emptySide t_listingLength t_hash t_m K65 K73 n x5 → vV p l e rm_X6_specific s m args below meth c Q9 6 D A 0 0 [(q_t, .inr (6, [.ref q_t_m, .ref q_t_saved, .int t_savedCount, .ref q_t_text, .int t_textLength, .int t_code, .int t_at, .ref q_t_read, .int t_number, .ref q_t_counts, .ref q_t_scores, .ref q_t_isIn, .ref q_t_order, .int t_ranked, .int t_emptySide, .ref q_t_row, .ref q_t_listing, .int t_listingLength, .long t_hash])), (q_t_m, .inl (cy 0, 378, .inl t_m))] 27 [(0, .ref q_t), (1, .int x1), (2, .int x2), (3, .int x3), (4, .int x4), (5, .int x5)] [] := by
  intro n
  induction n with
  | zero => intro x5 h; exact False.elim h
  | succ n ih =>
    intro x5 h
    unfold p_X6_specific_27 at h
    refine v_iload cx dX6_specific_27 5 rfl ?_
    refine v_iconst (v := 3) cx dX6_specific_29 (by decide) ?_
    refine v_icmp_ge (tgt := 73) cx dX6_specific_30 (by decide) h (fun h => ?_) (fun h => ?_)
    · refine v_lv (lv' := [(0, .ref q_t), (1, .int x1), (2, .int x2), (3, .int x3), (4, .int x4), (5, .int x5)]) [0, 1, 2, 3, 4, 5] rfl ?_
      exact hK73 _ h
    · refine v_aload_n cx dX6_specific_33 rfl 0 rfl ?_
      refine v_iload_n cx dX6_specific_34 rfl 1 rfl ?_
      refine v_iload_n cx dX6_specific_35 rfl 2 rfl ?_
      refine v_iload cx dX6_specific_36 5 rfl ?_
      refine v_callVpi (As := [.int x1, .int x2, .int x5]) cx (c_X6_ofEntry l g D cy q_t q_t_m q_t_saved q_t_text q_t_read q_t_counts q_t_scores q_t_isIn q_t_order q_t_row q_t_listing h) k_X6_141 (by decide) ⟨rfl, rfl⟩ (by decide) rfl rfl (Nat.le_of_ble_eq_true rfl) dX6_specific_38 [0, 1] [] (by decide) (vj_all 2 rfl (by decide +kernel)) rfl rfl rfl (q0 := 0) rfl rfl (fun r_1 h => ?_)
      refine v_if_eq (tgt := 73) cx dX6_specific_41 (by decide) h (fun h => ?_) (fun h => ?_)
      · refine v_lv (lv' := [(0, .ref q_t), (1, .int x1), (2, .int x2), (3, .int x3), (4, .int x4), (5, .int x5)]) [0, 1, 2, 3, 4, 5] rfl ?_
        exact hK73 _ h
      · refine v_aload_n cx dX6_specific_44 rfl 0 rfl ?_
        refine v_iload_n cx dX6_specific_45 rfl 1 rfl ?_
        refine v_iload_n cx dX6_specific_46 rfl 2 rfl ?_
        refine v_iload cx dX6_specific_47 5 rfl ?_
        refine v_callVpi (As := [.int x1, .int x2, .int x5]) cx (c_X6_ofEntry l g D cy q_t q_t_m q_t_saved q_t_text q_t_read q_t_counts q_t_scores q_t_isIn q_t_order q_t_row q_t_listing h) k_X6_141 (by decide) ⟨rfl, rfl⟩ (by decide) rfl rfl (Nat.le_of_ble_eq_true rfl) dX6_specific_49 [0, 1] [] (by decide) (vj_all 2 rfl (by decide +kernel)) rfl rfl rfl (q0 := 0) rfl rfl (fun r_2 h => ?_)
        refine v_aload_n cx dX6_specific_52 rfl 0 rfl ?_
        refine v_iload_n cx dX6_specific_53 rfl 3 rfl ?_
        refine v_iload cx dX6_specific_54 4 rfl ?_
        refine v_iload cx dX6_specific_56 5 rfl ?_
        refine v_iadd cx dX6_specific_58 ?_
        refine v_callVpi (As := [.int x3, .int (x4 + x5)]) cx (c_X6_of l g D cy q_t q_t_m q_t_saved q_t_text q_t_read q_t_counts q_t_scores q_t_isIn q_t_order q_t_row q_t_listing h) k_X6_118 (by decide) ⟨rfl, rfl⟩ (by decide) rfl rfl (Nat.le_of_ble_eq_true rfl) dX6_specific_59 [0, 1] [] (by decide) (vj_all 2 rfl (by decide +kernel)) rfl rfl rfl (q0 := 0) rfl rfl (fun r_3 h => ?_)
        refine v_icmp_eq (tgt := 67) cx dX6_specific_62 (by decide) h (fun h => ?_) (fun h => ?_)
        · refine v_iinc (v := x5 + 1) (k0 := 5) (lv' := [(5, .int (x5 + 1)), (0, .ref q_t), (1, .int x1), (2, .int x2), (3, .int x3), (4, .int x4)]) cx dX6_specific_67 rfl rfl (by decide) rfl ?_
          refine v_goto (tgt := 27) cx dX6_specific_70 (by decide) ?_
          refine v_lv (lv' := [(0, .ref q_t), (1, .int x1), (2, .int x2), (3, .int x3), (4, .int x4), (5, .int (x5 + 1))]) [1, 2, 3, 4, 5, 0] rfl ?_
          exact ih _ h
        · refine v_lv (lv' := [(0, .ref q_t), (1, .int x1), (2, .int x2), (3, .int x3), (4, .int x4), (5, .int x5)]) [0, 1, 2, 3, 4, 5] rfl ?_
          exact hK65 _ h
set_option maxHeartbeats 4000000 in
set_option maxRecDepth 100000 in
theorem c_X6_specific (l : Launch) (g : gT) (D : va_G) (cy : Nat → ClassId) (q_t q_t_m q_t_saved q_t_text q_t_read q_t_counts q_t_scores q_t_isIn q_t_order q_t_row q_t_listing : Nat) {t_savedCount : Int32} {t_textLength : Int32} {t_code : Int32} {t_at : Int32} {t_number : Int32} {t_ranked : Int32} {t_emptySide : Int32} {t_listingLength : Int32} {t_hash : Int64} {t_m : Nat → Int32} {x1 : Int32} {x2 : Int32} {x3 : Int32} {N : Nat} {Q : Int32 → Prop} (h : p_X6_specific N t_savedCount t_textLength t_code t_at t_number t_ranked t_emptySide t_listingLength t_hash t_m x1 x2 x3 Q) : UC l yX6_specific cX6_specific 6 (some .int) rm_X6_specific g D cy [.ref q_t, .int x1, .int x2, .int x3] [(q_t, .inr (6, [.ref q_t_m, .ref q_t_saved, .int t_savedCount, .ref q_t_text, .int t_textLength, .int t_code, .int t_at, .ref q_t_read, .int t_number, .ref q_t_counts, .ref q_t_scores, .ref q_t_isIn, .ref q_t_order, .int t_ranked, .int t_emptySide, .ref q_t_row, .ref q_t_listing, .int t_listingLength, .long t_hash])), (q_t_m, .inl (cy 0, 378, .inl t_m))] (fun v w => w = [(q_t, .inr (6, [.ref q_t_m, .ref q_t_saved, .int t_savedCount, .ref q_t_text, .int t_textLength, .int t_code, .int t_at, .ref q_t_read, .int t_number, .ref q_t_counts, .ref q_t_scores, .ref q_t_isIn, .ref q_t_order, .int t_ranked, .int t_emptySide, .ref q_t_row, .ref q_t_listing, .int t_listingLength, .long t_hash])), (q_t_m, .inl (cy 0, 378, .inl t_m))] ∧ ∃ r : Int32, v = some (.int r) ∧ Q r) := by
  refine UC_of (by decide +kernel) (Nat.le_of_ble_eq_true rfl) [(0, .ref q_t), (1, .int x1), (2, .int x2), (3, .int x3)] rfl (fun p e s m args below meth c A cx => ?_)
  unfold p_X6_specific at h
  refine v_iload_n cx dX6_specific_0 rfl 1 rfl ?_
  refine v_iconst (v := 3) cx dX6_specific_1 (by decide) ?_
  refine v_irem cx dX6_specific_2 (by decide) ?_
  refine v_if_ne (tgt := 10) cx dX6_specific_3 (by decide) h (fun h => ?_) (fun h => ?_)
  · refine v_iload_n cx dX6_specific_10 rfl 1 rfl ?_
    refine v_iconst (v := 3) cx dX6_specific_11 (by decide) ?_
    refine v_irem cx dX6_specific_12 (by decide) ?_
    refine v_iconst (v := 1) cx dX6_specific_13 (by decide) ?_
    refine v_icmp_ne (tgt := 21) cx dX6_specific_14 (by decide) h (fun h => ?_) (fun h => ?_)
    · refine v_iconst (v := 5) cx dX6_specific_21 (by decide) ?_
      refine v_istore (lv' := [(4, .int 5), (0, .ref q_t), (1, .int x1), (2, .int x2), (3, .int x3)]) cx dX6_specific_22 (by decide) rfl ?_
      refine v_iconst (v := 0) cx dX6_specific_24 (by decide) ?_
      refine v_istore (lv' := [(5, .int 0), (4, .int 5), (0, .ref q_t), (1, .int x1), (2, .int x2), (3, .int x3)]) cx dX6_specific_25 (by decide) rfl ?_
      refine v_lv (lv' := [(0, .ref q_t), (1, .int x1), (2, .int x2), (3, .int x3), (4, .int 5), (5, .int 0)]) [2, 3, 4, 5, 1, 0] rfl ?_
      refine w_X6_specific_27 cx q_t q_t_m q_t_saved q_t_text q_t_read q_t_counts q_t_scores q_t_isIn q_t_order q_t_row q_t_listing ?_ ?_ N _ h
      · intro x5_4 h
        refine v_iconst (v := (-1)) cx dX6_specific_65 (by decide) ?_
        exact v_ireturn cx rfl dX6_specific_66 ⟨rfl, _, rfl, h⟩
      · intro x5_5 h
        refine v_iload cx dX6_specific_73 5 rfl ?_
        exact v_ireturn cx rfl dX6_specific_75 ⟨rfl, _, rfl, h⟩
    · refine v_iconst (v := 2) cx dX6_specific_17 (by decide) ?_
      refine v_goto (tgt := 22) cx dX6_specific_18 (by decide) ?_
      refine v_istore (lv' := [(4, .int 2), (0, .ref q_t), (1, .int x1), (2, .int x2), (3, .int x3)]) cx dX6_specific_22 (by decide) rfl ?_
      refine v_iconst (v := 0) cx dX6_specific_24 (by decide) ?_
      refine v_istore (lv' := [(5, .int 0), (4, .int 2), (0, .ref q_t), (1, .int x1), (2, .int x2), (3, .int x3)]) cx dX6_specific_25 (by decide) rfl ?_
      refine v_lv (lv' := [(0, .ref q_t), (1, .int x1), (2, .int x2), (3, .int x3), (4, .int 2), (5, .int 0)]) [2, 3, 4, 5, 1, 0] rfl ?_
      refine w_X6_specific_27 cx q_t q_t_m q_t_saved q_t_text q_t_read q_t_counts q_t_scores q_t_isIn q_t_order q_t_row q_t_listing ?_ ?_ N _ h
      · intro x5_6 h
        refine v_iconst (v := (-1)) cx dX6_specific_65 (by decide) ?_
        exact v_ireturn cx rfl dX6_specific_66 ⟨rfl, _, rfl, h⟩
      · intro x5_7 h
        refine v_iload cx dX6_specific_73 5 rfl ?_
        exact v_ireturn cx rfl dX6_specific_75 ⟨rfl, _, rfl, h⟩
  · refine v_iconst (v := 0) cx dX6_specific_6 (by decide) ?_
    refine v_goto (tgt := 22) cx dX6_specific_7 (by decide) ?_
    refine v_istore (lv' := [(4, .int 0), (0, .ref q_t), (1, .int x1), (2, .int x2), (3, .int x3)]) cx dX6_specific_22 (by decide) rfl ?_
    refine v_iconst (v := 0) cx dX6_specific_24 (by decide) ?_
    refine v_istore (lv' := [(5, .int 0), (4, .int 0), (0, .ref q_t), (1, .int x1), (2, .int x2), (3, .int x3)]) cx dX6_specific_25 (by decide) rfl ?_
    refine v_lv (lv' := [(0, .ref q_t), (1, .int x1), (2, .int x2), (3, .int x3), (4, .int 0), (5, .int 0)]) [2, 3, 4, 5, 1, 0] rfl ?_
    refine w_X6_specific_27 cx q_t q_t_m q_t_saved q_t_text q_t_read q_t_counts q_t_scores q_t_isIn q_t_order q_t_row q_t_listing ?_ ?_ N _ h
    · intro x5_8 h
      refine v_iconst (v := (-1)) cx dX6_specific_65 (by decide) ?_
      exact v_ireturn cx rfl dX6_specific_66 ⟨rfl, _, rfl, h⟩
    · intro x5_9 h
      refine v_iload cx dX6_specific_73 5 rfl ?_
      exact v_ireturn cx rfl dX6_specific_75 ⟨rfl, _, rfl, h⟩
abbrev rm_X6_countingIn : Room := { frames := 2, cells := 0, slots := 0, locals := 48 }
set_option maxHeartbeats 4000000 in
set_option maxRecDepth 100000 in
theorem w_X6_countingIn_8 {p : Program} {l : Launch} {e : Env} {s : State} {m : MethodId} {args : Array Value} {below : List Frame} {meth : Method} {c : Code} {Q9 : State → Prop} {mn : String} {Ts : List Cond} {D : va_G} {cy : Nat → ClassId} {g : gT} {A : Nat → Prop} (cx : vC p s m args meth c cX6_countingIn 7 (some .int) RX6 mn Ts D cy g A) (q_t q_t_m q_t_saved q_t_text q_t_read q_t_counts q_t_scores q_t_isIn q_t_order q_t_row q_t_listing : Nat) {x1 : Int32} {x2 : Int32} {t_savedCount : Int32} {t_textLength : Int32} {t_code : Int32} {t_at : Int32} {t_number : Int32} {t_ranked : Int32} {t_emptySide : Int32} {t_listingLength : Int32} {t_hash : Int64} {t_m : Nat → Int32} {N : Nat} {K67 : Int32 → Int32 → Int32 → Prop} (hK67 : ∀ (x3 : Int32) (x4 : Int32) (x5 : Int32), K67 x3 x4 x5 → vV p l e rm_X6_countingIn s m args below meth c Q9 7 D A 0 0 [(q_t, .inr (6, [.ref q_t_m, .ref q_t_saved, .int t_savedCount, .ref q_t_text, .int t_textLength, .int t_code, .int t_at, .ref q_t_read, .int t_number, .ref q_t_counts, .ref q_t_scores, .ref q_t_isIn, .ref q_t_order, .int t_ranked, .int t_emptySide, .ref q_t_row, .ref q_t_listing, .int t_listingLength, .long t_hash])), (q_t_m, .inl (cy 0, 378, .inl t_m))] 67 [(0, .ref q_t), (1, .int x1), (2, .int x2), (3, .int x3), (4, .int x4), (5, .int x5)] []) : ∀ (n : Nat) (x3 : Int32) (x4 : Int32) (x5 : Int32), p_X6_countingIn_8 N x1 x2 t_savedCount t_textLength t_code t_at t_number t_ranked t_emptySide t_listingLength t_hash t_m K67 n x3 x4 x5 → vV p l e rm_X6_countingIn s m args below meth c Q9 7 D A 0 0 [(q_t, .inr (6, [.ref q_t_m, .ref q_t_saved, .int t_savedCount, .ref q_t_text, .int t_textLength, .int t_code, .int t_at, .ref q_t_read, .int t_number, .ref q_t_counts, .ref q_t_scores, .ref q_t_isIn, .ref q_t_order, .int t_ranked, .int t_emptySide, .ref q_t_row, .ref q_t_listing, .int t_listingLength, .long t_hash])), (q_t_m, .inl (cy 0, 378, .inl t_m))] 8 [(0, .ref q_t), (1, .int x1), (2, .int x2), (3, .int x3), (4, .int x4), (5, .int x5)] [] := by
  intro n
  induction n with
  | zero => intro x3 x4 x5 h; exact False.elim h
  | succ n ih =>
    intro x3 x4 x5 h
    unfold p_X6_countingIn_8 at h
    refine v_iload cx dX6_countingIn_8 5 rfl ?_
    refine v_aload_n cx dX6_countingIn_10 rfl 0 rfl ?_
    refine g_X6_7 cx dX6_countingIn_11 0 rfl rfl ?_
    refine v_iconst (v := 4) cx dX6_countingIn_14 (by decide) ?_
    refine v_iload_n cx dX6_countingIn_15 rfl 1 rfl ?_
    refine v_iadd cx dX6_countingIn_16 ?_
    refine v_iald cx dX6_countingIn_17 1 rfl h (fun h => ?_)
    refine v_icmp_ge (tgt := 67) cx dX6_countingIn_18 (by decide) h (fun h => ?_) (fun h => ?_)
    · refine v_lv (lv' := [(0, .ref q_t), (1, .int x1), (2, .int x2), (3, .int x3), (4, .int x4), (5, .int x5)]) [0, 1, 2, 3, 4, 5] rfl ?_
      exact hK67 _ _ _ h
    · refine v_aload_n cx dX6_countingIn_21 rfl 0 rfl ?_
      refine v_iload_n cx dX6_countingIn_22 rfl 1 rfl ?_
      refine v_iload cx dX6_countingIn_23 5 rfl ?_
      refine v_iload_n cx dX6_countingIn_25 rfl 2 rfl ?_
      refine v_callVpi (As := [.int x1, .int x5, .int x2]) cx (c_X6_specific l g D cy q_t q_t_m q_t_saved q_t_text q_t_read q_t_counts q_t_scores q_t_isIn q_t_order q_t_row q_t_listing h) k_X6_145 (by decide) ⟨rfl, rfl⟩ (by decide) rfl rfl (Nat.le_of_ble_eq_true rfl) dX6_countingIn_26 [0, 1] [] (by decide) (vj_all 2 rfl (by decide +kernel)) rfl rfl rfl (q0 := 0) rfl rfl (fun r_1 h => ?_)
      refine v_istore (lv' := [(6, .int r_1), (0, .ref q_t), (1, .int x1), (2, .int x2), (3, .int x3), (4, .int x4), (5, .int x5)]) cx dX6_countingIn_29 (by decide) rfl ?_
      refine v_iload cx dX6_countingIn_31 0 rfl ?_
      refine v_iload cx dX6_countingIn_33 5 rfl ?_
      refine v_icmp_le (tgt := 43) cx dX6_countingIn_35 (by decide) h (fun h => ?_) (fun h => ?_)
      · refine v_iload_n cx dX6_countingIn_43 rfl 4 rfl ?_
        refine v_istore_n (lv' := [(3, .int x3), (6, .int r_1), (0, .ref q_t), (1, .int x1), (2, .int x2), (4, .int x4), (5, .int x5)]) cx dX6_countingIn_44 rfl (by decide) rfl ?_
        refine v_iload cx dX6_countingIn_45 1 rfl ?_
        refine v_iload cx dX6_countingIn_47 5 rfl ?_
        refine v_icmp_le (tgt := 57) cx dX6_countingIn_49 (by decide) h (fun h => ?_) (fun h => ?_)
        · refine v_iload cx dX6_countingIn_57 5 rfl ?_
          refine v_istore (lv' := [(4, .int x4), (3, .int x3), (6, .int r_1), (0, .ref q_t), (1, .int x1), (2, .int x2), (5, .int x5)]) cx dX6_countingIn_59 (by decide) rfl ?_
          refine v_iinc (v := x5 + 1) (k0 := 6) (lv' := [(5, .int (x5 + 1)), (4, .int x4), (3, .int x3), (6, .int r_1), (0, .ref q_t), (1, .int x1), (2, .int x2)]) cx dX6_countingIn_61 rfl rfl (by decide) rfl ?_
          refine v_goto (tgt := 8) cx dX6_countingIn_64 (by decide) ?_
          refine v_lv (lv' := [(0, .ref q_t), (1, .int x1), (2, .int x2), (3, .int x3), (4, .int x4), (5, .int (x5 + 1))]) [4, 5, 6, 2, 1, 0] rfl ?_
          exact ih _ _ _ h
        · refine v_iload cx dX6_countingIn_52 1 rfl ?_
          refine v_goto (tgt := 59) cx dX6_countingIn_54 (by decide) ?_
          refine v_istore (lv' := [(4, .int r_1), (3, .int x3), (6, .int r_1), (0, .ref q_t), (1, .int x1), (2, .int x2), (5, .int x5)]) cx dX6_countingIn_59 (by decide) rfl ?_
          refine v_iinc (v := x5 + 1) (k0 := 6) (lv' := [(5, .int (x5 + 1)), (4, .int r_1), (3, .int x3), (6, .int r_1), (0, .ref q_t), (1, .int x1), (2, .int x2)]) cx dX6_countingIn_61 rfl rfl (by decide) rfl ?_
          refine v_goto (tgt := 8) cx dX6_countingIn_64 (by decide) ?_
          refine v_lv (lv' := [(0, .ref q_t), (1, .int x1), (2, .int x2), (3, .int x3), (4, .int r_1), (5, .int (x5 + 1))]) [4, 5, 6, 2, 1, 0] rfl ?_
          exact ih _ _ _ h
      · refine v_iload cx dX6_countingIn_38 6 rfl ?_
        refine v_goto (tgt := 44) cx dX6_countingIn_40 (by decide) ?_
        refine v_istore_n (lv' := [(3, .int x5), (6, .int r_1), (0, .ref q_t), (1, .int x1), (2, .int x2), (4, .int x4), (5, .int x5)]) cx dX6_countingIn_44 rfl (by decide) rfl ?_
        refine v_iload cx dX6_countingIn_45 1 rfl ?_
        refine v_iload cx dX6_countingIn_47 5 rfl ?_
        refine v_icmp_le (tgt := 57) cx dX6_countingIn_49 (by decide) h (fun h => ?_) (fun h => ?_)
        · refine v_iload cx dX6_countingIn_57 5 rfl ?_
          refine v_istore (lv' := [(4, .int x4), (3, .int x5), (6, .int r_1), (0, .ref q_t), (1, .int x1), (2, .int x2), (5, .int x5)]) cx dX6_countingIn_59 (by decide) rfl ?_
          refine v_iinc (v := x5 + 1) (k0 := 6) (lv' := [(5, .int (x5 + 1)), (4, .int x4), (3, .int x5), (6, .int r_1), (0, .ref q_t), (1, .int x1), (2, .int x2)]) cx dX6_countingIn_61 rfl rfl (by decide) rfl ?_
          refine v_goto (tgt := 8) cx dX6_countingIn_64 (by decide) ?_
          refine v_lv (lv' := [(0, .ref q_t), (1, .int x1), (2, .int x2), (3, .int x5), (4, .int x4), (5, .int (x5 + 1))]) [4, 5, 6, 2, 1, 0] rfl ?_
          exact ih _ _ _ h
        · refine v_iload cx dX6_countingIn_52 1 rfl ?_
          refine v_goto (tgt := 59) cx dX6_countingIn_54 (by decide) ?_
          refine v_istore (lv' := [(4, .int r_1), (3, .int x5), (6, .int r_1), (0, .ref q_t), (1, .int x1), (2, .int x2), (5, .int x5)]) cx dX6_countingIn_59 (by decide) rfl ?_
          refine v_iinc (v := x5 + 1) (k0 := 6) (lv' := [(5, .int (x5 + 1)), (4, .int r_1), (3, .int x5), (6, .int r_1), (0, .ref q_t), (1, .int x1), (2, .int x2)]) cx dX6_countingIn_61 rfl rfl (by decide) rfl ?_
          refine v_goto (tgt := 8) cx dX6_countingIn_64 (by decide) ?_
          refine v_lv (lv' := [(0, .ref q_t), (1, .int x1), (2, .int x2), (3, .int x5), (4, .int r_1), (5, .int (x5 + 1))]) [4, 5, 6, 2, 1, 0] rfl ?_
          exact ih _ _ _ h
set_option maxHeartbeats 4000000 in
set_option maxRecDepth 100000 in
theorem c_X6_countingIn (l : Launch) (g : gT) (D : va_G) (cy : Nat → ClassId) (q_t q_t_m q_t_saved q_t_text q_t_read q_t_counts q_t_scores q_t_isIn q_t_order q_t_row q_t_listing : Nat) {t_savedCount : Int32} {t_textLength : Int32} {t_code : Int32} {t_at : Int32} {t_number : Int32} {t_ranked : Int32} {t_emptySide : Int32} {t_listingLength : Int32} {t_hash : Int64} {t_m : Nat → Int32} {x1 : Int32} {x2 : Int32} {N : Nat} {Q : Int32 → Prop} (h : p_X6_countingIn N t_savedCount t_textLength t_code t_at t_number t_ranked t_emptySide t_listingLength t_hash t_m x1 x2 Q) : UC l yX6_countingIn cX6_countingIn 7 (some .int) rm_X6_countingIn g D cy [.ref q_t, .int x1, .int x2] [(q_t, .inr (6, [.ref q_t_m, .ref q_t_saved, .int t_savedCount, .ref q_t_text, .int t_textLength, .int t_code, .int t_at, .ref q_t_read, .int t_number, .ref q_t_counts, .ref q_t_scores, .ref q_t_isIn, .ref q_t_order, .int t_ranked, .int t_emptySide, .ref q_t_row, .ref q_t_listing, .int t_listingLength, .long t_hash])), (q_t_m, .inl (cy 0, 378, .inl t_m))] (fun v w => w = [(q_t, .inr (6, [.ref q_t_m, .ref q_t_saved, .int t_savedCount, .ref q_t_text, .int t_textLength, .int t_code, .int t_at, .ref q_t_read, .int t_number, .ref q_t_counts, .ref q_t_scores, .ref q_t_isIn, .ref q_t_order, .int t_ranked, .int t_emptySide, .ref q_t_row, .ref q_t_listing, .int t_listingLength, .long t_hash])), (q_t_m, .inl (cy 0, 378, .inl t_m))] ∧ ∃ r : Int32, v = some (.int r) ∧ Q r) := by
  refine UC_of (by decide +kernel) (Nat.le_of_ble_eq_true rfl) [(0, .ref q_t), (1, .int x1), (2, .int x2)] rfl (fun p e s m args below meth c A cx => ?_)
  unfold p_X6_countingIn at h
  refine v_iconst (v := (-1)) cx dX6_countingIn_0 (by decide) ?_
  refine v_istore_n (lv' := [(3, .int (-1)), (0, .ref q_t), (1, .int x1), (2, .int x2)]) cx dX6_countingIn_1 rfl (by decide) rfl ?_
  refine v_iconst (v := (-1)) cx dX6_countingIn_2 (by decide) ?_
  refine v_istore (lv' := [(4, .int (-1)), (3, .int (-1)), (0, .ref q_t), (1, .int x1), (2, .int x2)]) cx dX6_countingIn_3 (by decide) rfl ?_
  refine v_iconst (v := 0) cx dX6_countingIn_5 (by decide) ?_
  refine v_istore (lv' := [(5, .int 0), (4, .int (-1)), (3, .int (-1)), (0, .ref q_t), (1, .int x1), (2, .int x2)]) cx dX6_countingIn_6 (by decide) rfl ?_
  refine v_lv (lv' := [(0, .ref q_t), (1, .int x1), (2, .int x2), (3, .int (-1)), (4, .int (-1)), (5, .int 0)]) [3, 4, 5, 2, 1, 0] rfl ?_
  refine w_X6_countingIn_8 cx q_t q_t_m q_t_saved q_t_text q_t_read q_t_counts q_t_scores q_t_isIn q_t_order q_t_row q_t_listing ?_ N _ _ _ h
  · intro x3_2 x4_3 x5_4 h
    refine v_iload_n cx dX6_countingIn_67 rfl 3 rfl ?_
    exact v_ireturn cx rfl dX6_countingIn_68 ⟨rfl, _, rfl, h⟩
abbrev rm_X6_entryFor : Room := { frames := 0, cells := 0, slots := 0, locals := 0 }
set_option maxHeartbeats 4000000 in
set_option maxRecDepth 100000 in
theorem c_X6_entryFor (l : Launch) (g : gT) (D : va_G) (cy : Nat → ClassId) (q_t q_t_m q_t_saved q_t_text q_t_read q_t_counts q_t_scores q_t_isIn q_t_order q_t_row q_t_listing : Nat) {t_savedCount : Int32} {t_textLength : Int32} {t_code : Int32} {t_at : Int32} {t_number : Int32} {t_ranked : Int32} {t_emptySide : Int32} {t_listingLength : Int32} {t_hash : Int64} {t_counts : Nat → Int32} {x1 : Int32} {x2 : Int32} {N : Nat} {Q : Int32 → Prop} (h : p_X6_entryFor N t_savedCount t_textLength t_code t_at t_number t_ranked t_emptySide t_listingLength t_hash t_counts x1 x2 Q) : UC l yX6_entryFor cX6_entryFor 3 (some .int) rm_X6_entryFor g D cy [.ref q_t, .int x1, .int x2] [(q_t, .inr (6, [.ref q_t_m, .ref q_t_saved, .int t_savedCount, .ref q_t_text, .int t_textLength, .int t_code, .int t_at, .ref q_t_read, .int t_number, .ref q_t_counts, .ref q_t_scores, .ref q_t_isIn, .ref q_t_order, .int t_ranked, .int t_emptySide, .ref q_t_row, .ref q_t_listing, .int t_listingLength, .long t_hash])), (q_t_counts, .inl (cy 0, 96, .inl t_counts))] (fun v w => w = [(q_t, .inr (6, [.ref q_t_m, .ref q_t_saved, .int t_savedCount, .ref q_t_text, .int t_textLength, .int t_code, .int t_at, .ref q_t_read, .int t_number, .ref q_t_counts, .ref q_t_scores, .ref q_t_isIn, .ref q_t_order, .int t_ranked, .int t_emptySide, .ref q_t_row, .ref q_t_listing, .int t_listingLength, .long t_hash])), (q_t_counts, .inl (cy 0, 96, .inl t_counts))] ∧ ∃ r : Int32, v = some (.int r) ∧ Q r) := by
  refine UC_of (by decide +kernel) (Nat.le_of_ble_eq_true rfl) [(0, .ref q_t), (1, .int x1), (2, .int x2)] rfl (fun p e s m args below meth c A cx => ?_)
  unfold p_X6_entryFor at h
  refine v_iload_n cx dX6_entryFor_0 rfl 1 rfl ?_
  refine v_iconst (v := 3) cx dX6_entryFor_1 (by decide) ?_
  refine v_idiv cx dX6_entryFor_2 (by decide) ?_
  refine v_aload_n cx dX6_entryFor_3 rfl 0 rfl ?_
  refine g_X6_35 cx dX6_entryFor_4 0 rfl rfl ?_
  refine v_icmp_ne (tgt := 14) cx dX6_entryFor_7 (by decide) h (fun h => ?_) (fun h => ?_)
  · refine v_aload_n cx dX6_entryFor_14 rfl 0 rfl ?_
    refine g_X6_22 cx dX6_entryFor_15 0 rfl rfl ?_
    refine v_bipush (v := 16) cx dX6_entryFor_18 (by decide) ?_
    refine v_iload_n cx dX6_entryFor_20 rfl 1 rfl ?_
    refine v_imul cx dX6_entryFor_21 ?_
    refine v_iload_n cx dX6_entryFor_22 rfl 2 rfl ?_
    refine v_iadd cx dX6_entryFor_23 ?_
    refine v_iald cx dX6_entryFor_24 1 rfl h (fun h => ?_)
    exact v_ireturn cx rfl dX6_entryFor_25 ⟨rfl, _, rfl, h⟩
  · refine v_iconst (v := (-1)) cx dX6_entryFor_10 (by decide) ?_
    refine v_goto (tgt := 25) cx dX6_entryFor_11 (by decide) ?_
    exact v_ireturn cx rfl dX6_entryFor_25 ⟨rfl, _, rfl, h⟩
abbrev rm_X6_weightIn : Room := { frames := 1, cells := 0, slots := 0, locals := 23 }
set_option maxHeartbeats 4000000 in
set_option maxRecDepth 100000 in
theorem c_X6_weightIn (l : Launch) (g : gT) (D : va_G) (cy : Nat → ClassId) (q_t q_t_m q_t_saved q_t_text q_t_read q_t_counts q_t_scores q_t_isIn q_t_order q_t_row q_t_listing : Nat) {t_savedCount : Int32} {t_textLength : Int32} {t_code : Int32} {t_at : Int32} {t_number : Int32} {t_ranked : Int32} {t_emptySide : Int32} {t_listingLength : Int32} {t_hash : Int64} {t_counts : Nat → Int32} {t_m : Nat → Int32} {x1 : Int32} {x2 : Int32} {N : Nat} {Q : Int32 → Prop} (h : p_X6_weightIn N t_savedCount t_textLength t_code t_at t_number t_ranked t_emptySide t_listingLength t_hash t_counts t_m x1 x2 Q) : UC l yX6_weightIn cX6_weightIn 5 (some .int) rm_X6_weightIn g D cy [.ref q_t, .int x1, .int x2] [(q_t, .inr (6, [.ref q_t_m, .ref q_t_saved, .int t_savedCount, .ref q_t_text, .int t_textLength, .int t_code, .int t_at, .ref q_t_read, .int t_number, .ref q_t_counts, .ref q_t_scores, .ref q_t_isIn, .ref q_t_order, .int t_ranked, .int t_emptySide, .ref q_t_row, .ref q_t_listing, .int t_listingLength, .long t_hash])), (q_t_counts, .inl (cy 0, 96, .inl t_counts)), (q_t_m, .inl (cy 0, 378, .inl t_m))] (fun v w => w = [(q_t, .inr (6, [.ref q_t_m, .ref q_t_saved, .int t_savedCount, .ref q_t_text, .int t_textLength, .int t_code, .int t_at, .ref q_t_read, .int t_number, .ref q_t_counts, .ref q_t_scores, .ref q_t_isIn, .ref q_t_order, .int t_ranked, .int t_emptySide, .ref q_t_row, .ref q_t_listing, .int t_listingLength, .long t_hash])), (q_t_counts, .inl (cy 0, 96, .inl t_counts)), (q_t_m, .inl (cy 0, 378, .inl t_m))] ∧ ∃ r : Int32, v = some (.int r) ∧ Q r) := by
  refine UC_of (by decide +kernel) (Nat.le_of_ble_eq_true rfl) [(0, .ref q_t), (1, .int x1), (2, .int x2)] rfl (fun p e s m args below meth c A cx => ?_)
  unfold p_X6_weightIn at h
  refine v_aload_n cx dX6_weightIn_0 rfl 0 rfl ?_
  refine v_iload_n cx dX6_weightIn_1 rfl 1 rfl ?_
  refine v_iload_n cx dX6_weightIn_2 rfl 2 rfl ?_
  refine v_callVpi (As := [.int x1, .int x2]) cx (c_X6_entryFor l g D cy q_t q_t_m q_t_saved q_t_text q_t_read q_t_counts q_t_scores q_t_isIn q_t_order q_t_row q_t_listing h) k_X6_148 (by decide) ⟨rfl, rfl⟩ (by decide) rfl rfl (Nat.le_of_ble_eq_true rfl) dX6_weightIn_3 [0, 1] [2] (by decide) (vj_all 3 rfl (by decide +kernel)) rfl rfl rfl (q0 := 0) rfl rfl (fun r_1 h => ?_)
  refine v_istore_n (lv' := [(3, .int r_1), (0, .ref q_t), (1, .int x1), (2, .int x2)]) cx dX6_weightIn_6 rfl (by decide) rfl ?_
  refine v_iload_n cx dX6_weightIn_7 rfl 0 rfl ?_
  refine v_iconst (v := (-1)) cx dX6_weightIn_8 (by decide) ?_
  refine v_icmp_eq (tgt := 20) cx dX6_weightIn_9 (by decide) h (fun h => ?_) (fun h => ?_)
  · refine v_iload_n cx dX6_weightIn_20 rfl 2 rfl ?_
    refine v_iconst (v := 3) cx dX6_weightIn_21 (by decide) ?_
    refine v_idiv cx dX6_weightIn_22 (by decide) ?_
    refine v_aload_n cx dX6_weightIn_23 rfl 1 rfl ?_
    refine g_X6_35 cx dX6_weightIn_24 0 rfl rfl ?_
    refine v_icmp_eq (tgt := 41) cx dX6_weightIn_27 (by decide) h (fun h => ?_) (fun h => ?_)
    · refine v_iconst (v := 1) cx dX6_weightIn_41 (by decide) ?_
      refine v_goto (tgt := 46) cx dX6_weightIn_42 (by decide) ?_
      refine v_istore (lv' := [(4, .int 1), (3, .int r_1), (0, .ref q_t), (1, .int x1), (2, .int x2)]) cx dX6_weightIn_46 (by decide) rfl ?_
      refine v_iload cx dX6_weightIn_48 0 rfl ?_
      refine v_if_ne (tgt := 71) (P1 := True) (P2 := False) cx dX6_weightIn_50 (by decide) (by decide) (fun _ => ?_) (fun z => z.elim)
      refine v_sipush (v := 1000) cx dX6_weightIn_71 (by decide) ?_
      refine v_goto (tgt := 78) cx dX6_weightIn_74 (by decide) ?_
      exact v_ireturn cx rfl dX6_weightIn_78 ⟨rfl, _, rfl, h⟩
    · refine v_aload_n cx dX6_weightIn_30 rfl 1 rfl ?_
      refine g_X6_7 cx dX6_weightIn_31 0 rfl rfl ?_
      refine v_iconst (v := 4) cx dX6_weightIn_34 (by decide) ?_
      refine v_iload_n cx dX6_weightIn_35 rfl 2 rfl ?_
      refine v_iadd cx dX6_weightIn_36 ?_
      refine v_iald cx dX6_weightIn_37 2 rfl h (fun h => ?_)
      refine v_if_ne (tgt := 45) cx dX6_weightIn_38 (by decide) h (fun h => ?_) (fun h => ?_)
      · refine v_iconst (v := 0) cx dX6_weightIn_45 (by decide) ?_
        refine v_istore (lv' := [(4, .int 0), (3, .int r_1), (0, .ref q_t), (1, .int x1), (2, .int x2)]) cx dX6_weightIn_46 (by decide) rfl ?_
        refine v_iload cx dX6_weightIn_48 0 rfl ?_
        refine v_if_ne (tgt := 71) (P1 := False) (P2 := True) cx dX6_weightIn_50 (by decide) (by decide) (fun z => z.elim) (fun _ => ?_)
        refine v_iload_n cx dX6_weightIn_53 rfl 3 rfl ?_
        refine v_iconst (v := 3) cx dX6_weightIn_54 (by decide) ?_
        refine v_irem cx dX6_weightIn_55 (by decide) ?_
        refine v_iconst (v := 2) cx dX6_weightIn_56 (by decide) ?_
        refine v_icmp_ne (tgt := 77) cx dX6_weightIn_57 (by decide) h (fun h => ?_) (fun h => ?_)
        · refine v_iconst (v := 0) cx dX6_weightIn_77 (by decide) ?_
          exact v_ireturn cx rfl dX6_weightIn_78 ⟨rfl, _, rfl, h⟩
        · refine v_aload_n cx dX6_weightIn_60 rfl 2 rfl ?_
          refine v_iload_n cx dX6_weightIn_61 rfl 4 rfl ?_
          refine v_iconst (v := 5) cx dX6_weightIn_62 (by decide) ?_
          refine v_callVpi (As := [.int x2, .int 5]) cx (c_X6_of l g D cy q_t q_t_m q_t_saved q_t_text q_t_read q_t_counts q_t_scores q_t_isIn q_t_order q_t_row q_t_listing h) k_X6_118 (by decide) ⟨rfl, rfl⟩ (by decide) rfl rfl (Nat.le_of_ble_eq_true rfl) dX6_weightIn_63 [0, 2] [1] (by decide) (vj_all 3 rfl (by decide +kernel)) rfl rfl rfl (q0 := 0) rfl rfl (fun r_2 h => ?_)
          refine v_ldc cx dX6_weightIn_66 wK_X6_151 ?_
          refine v_icmp_ne (tgt := 77) cx dX6_weightIn_68 (by decide) h (fun h => ?_) (fun h => ?_)
          · refine v_iconst (v := 0) cx dX6_weightIn_77 (by decide) ?_
            exact v_ireturn cx rfl dX6_weightIn_78 ⟨rfl, _, rfl, h⟩
          · refine v_sipush (v := 1000) cx dX6_weightIn_71 (by decide) ?_
            refine v_goto (tgt := 78) cx dX6_weightIn_74 (by decide) ?_
            exact v_ireturn cx rfl dX6_weightIn_78 ⟨rfl, _, rfl, h⟩
      · refine v_iconst (v := 1) cx dX6_weightIn_41 (by decide) ?_
        refine v_goto (tgt := 46) cx dX6_weightIn_42 (by decide) ?_
        refine v_istore (lv' := [(4, .int 1), (3, .int r_1), (0, .ref q_t), (1, .int x1), (2, .int x2)]) cx dX6_weightIn_46 (by decide) rfl ?_
        refine v_iload cx dX6_weightIn_48 0 rfl ?_
        refine v_if_ne (tgt := 71) (P1 := True) (P2 := False) cx dX6_weightIn_50 (by decide) (by decide) (fun _ => ?_) (fun z => z.elim)
        refine v_sipush (v := 1000) cx dX6_weightIn_71 (by decide) ?_
        refine v_goto (tgt := 78) cx dX6_weightIn_74 (by decide) ?_
        exact v_ireturn cx rfl dX6_weightIn_78 ⟨rfl, _, rfl, h⟩
  · refine v_aload_n cx dX6_weightIn_12 rfl 1 rfl ?_
    refine v_iload_n cx dX6_weightIn_13 rfl 2 rfl ?_
    refine v_iload_n cx dX6_weightIn_14 rfl 0 rfl ?_
    refine v_iconst (v := 3) cx dX6_weightIn_15 (by decide) ?_
    refine v_callVpi (As := [.int x1, .int r_1, .int 3]) cx (c_X6_ofEntry l g D cy q_t q_t_m q_t_saved q_t_text q_t_read q_t_counts q_t_scores q_t_isIn q_t_order q_t_row q_t_listing h) k_X6_141 (by decide) ⟨rfl, rfl⟩ (by decide) rfl rfl (Nat.le_of_ble_eq_true rfl) dX6_weightIn_16 [0, 2] [1] (by decide) (vj_all 3 rfl (by decide +kernel)) rfl rfl rfl (q0 := 0) rfl rfl (fun r_3 h => ?_)
    exact v_ireturn cx rfl dX6_weightIn_19 ⟨rfl, _, rfl, h⟩
abbrev rm_X6_count : Room := { frames := 3, cells := 0, slots := 0, locals := 74 }
set_option maxHeartbeats 4000000 in
set_option maxRecDepth 100000 in
theorem w_X6_count_10 {p : Program} {l : Launch} {e : Env} {s : State} {m : MethodId} {args : Array Value} {below : List Frame} {meth : Method} {c : Code} {Q9 : State → Prop} {mn : String} {Ts : List Cond} {D : va_G} {cy : Nat → ClassId} {g : gT} {A : Nat → Prop} (cx : vC p s m args meth c cX6_count 3 none RX6 mn Ts D cy g A) (q_t q_t_m q_t_saved q_t_text q_t_read q_t_counts q_t_scores q_t_isIn q_t_order q_t_row q_t_listing : Nat) {x1 : Int32} {t_savedCount : Int32} {t_textLength : Int32} {t_code : Int32} {t_at : Int32} {t_number : Int32} {t_ranked : Int32} {t_emptySide : Int32} {t_listingLength : Int32} {t_hash : Int64} {t_m : Nat → Int32} {N : Nat} {K43 : Int32 → (Nat → Int32) → Prop} (hK43 : ∀ (x2 : Int32) (t_counts : Nat → Int32), K43 x2 t_counts → vV p l e rm_X6_count s m args below meth c Q9 3 D A 0 0 [(q_t, .inr (6, [.ref q_t_m, .ref q_t_saved, .int t_savedCount, .ref q_t_text, .int t_textLength, .int t_code, .int t_at, .ref q_t_read, .int t_number, .ref q_t_counts, .ref q_t_scores, .ref q_t_isIn, .ref q_t_order, .int t_ranked, .int t_emptySide, .ref q_t_row, .ref q_t_listing, .int t_listingLength, .long t_hash])), (q_t_m, .inl (cy 0, 378, .inl t_m)), (q_t_counts, .inl (cy 0, 96, .inl t_counts))] 43 [(0, .ref q_t), (1, .int x1), (2, .int x2)] []) : ∀ (n : Nat) (x2 : Int32) (t_counts : Nat → Int32), p_X6_count_10 N x1 t_savedCount t_textLength t_code t_at t_number t_ranked t_emptySide t_listingLength t_hash t_m K43 n x2 t_counts → vV p l e rm_X6_count s m args below meth c Q9 3 D A 0 0 [(q_t, .inr (6, [.ref q_t_m, .ref q_t_saved, .int t_savedCount, .ref q_t_text, .int t_textLength, .int t_code, .int t_at, .ref q_t_read, .int t_number, .ref q_t_counts, .ref q_t_scores, .ref q_t_isIn, .ref q_t_order, .int t_ranked, .int t_emptySide, .ref q_t_row, .ref q_t_listing, .int t_listingLength, .long t_hash])), (q_t_m, .inl (cy 0, 378, .inl t_m)), (q_t_counts, .inl (cy 0, 96, .inl t_counts))] 10 [(0, .ref q_t), (1, .int x1), (2, .int x2)] [] := by
  intro n
  induction n with
  | zero => intro x2 t_counts h; exact False.elim h
  | succ n ih =>
    intro x2 t_counts h
    unfold p_X6_count_10 at h
    refine v_iload_n cx dX6_count_10 rfl 2 rfl ?_
    refine v_aload_n cx dX6_count_11 rfl 0 rfl ?_
    refine g_X6_7 cx dX6_count_12 0 rfl rfl ?_
    refine v_iconst (v := 0) cx dX6_count_15 (by decide) ?_
    refine v_iald cx dX6_count_16 1 rfl ⟨by unfold vp_in; decide, h⟩ (fun h => ?_)
    refine v_icmp_ge (tgt := 43) cx dX6_count_17 (by decide) h (fun h => ?_) (fun h => ?_)
    · refine v_lv (lv' := [(0, .ref q_t), (1, .int x1), (2, .int x2)]) [0, 1, 2] rfl ?_
      exact hK43 _ _ h
    · refine v_aload_n cx dX6_count_20 rfl 0 rfl ?_
      refine g_X6_22 cx dX6_count_21 0 rfl rfl ?_
      refine v_bipush (v := 16) cx dX6_count_24 (by decide) ?_
      refine v_iload_n cx dX6_count_26 rfl 1 rfl ?_
      refine v_imul cx dX6_count_27 ?_
      refine v_iload_n cx dX6_count_28 rfl 2 rfl ?_
      refine v_iadd cx dX6_count_29 ?_
      refine v_aload_n cx dX6_count_30 rfl 0 rfl ?_
      refine v_iload_n cx dX6_count_31 rfl 1 rfl ?_
      refine v_iload_n cx dX6_count_32 rfl 2 rfl ?_
      refine v_callVpi (As := [.int x1, .int x2]) cx (c_X6_countingIn l g D cy q_t q_t_m q_t_saved q_t_text q_t_read q_t_counts q_t_scores q_t_isIn q_t_order q_t_row q_t_listing h) k_X6_152 (by decide) ⟨rfl, rfl⟩ (by decide) rfl rfl (Nat.le_of_ble_eq_true rfl) dX6_count_33 [0, 1] [2] (by decide) (vj_all 3 rfl (by decide +kernel)) rfl rfl rfl (q0 := 0) rfl rfl (fun r_1 h => ?_)
      refine v_iast (ws' := [(q_t, .inr (6, [.ref q_t_m, .ref q_t_saved, .int t_savedCount, .ref q_t_text, .int t_textLength, .int t_code, .int t_at, .ref q_t_read, .int t_number, .ref q_t_counts, .ref q_t_scores, .ref q_t_isIn, .ref q_t_order, .int t_ranked, .int t_emptySide, .ref q_t_row, .ref q_t_listing, .int t_listingLength, .long t_hash])), (q_t_m, .inl (cy 0, 378, .inl t_m)), (q_t_counts, .inl (cy 0, 96, .inl (upd t_counts (((16 * x1) + x2).toNatClampNeg) r_1)))]) cx dX6_count_36 2 rfl h rfl (fun h => ?_)
      refine v_iinc (v := x2 + 1) (k0 := 2) (lv' := [(2, .int (x2 + 1)), (0, .ref q_t), (1, .int x1)]) cx dX6_count_37 rfl rfl (by decide) rfl ?_
      refine v_goto (tgt := 10) cx dX6_count_40 (by decide) ?_
      refine v_lv (lv' := [(0, .ref q_t), (1, .int x1), (2, .int (x2 + 1))]) [1, 2, 0] rfl ?_
      exact ih _ _ h
set_option maxHeartbeats 4000000 in
set_option maxRecDepth 100000 in
theorem w_X6_count_2 {p : Program} {l : Launch} {e : Env} {s : State} {m : MethodId} {args : Array Value} {below : List Frame} {meth : Method} {c : Code} {Q9 : State → Prop} {mn : String} {Ts : List Cond} {D : va_G} {cy : Nat → ClassId} {g : gT} {A : Nat → Prop} (cx : vC p s m args meth c cX6_count 3 none RX6 mn Ts D cy g A) (q_t q_t_m q_t_saved q_t_text q_t_read q_t_counts q_t_scores q_t_isIn q_t_order q_t_row q_t_listing : Nat) {t_savedCount : Int32} {t_textLength : Int32} {t_code : Int32} {t_at : Int32} {t_number : Int32} {t_ranked : Int32} {t_emptySide : Int32} {t_listingLength : Int32} {t_hash : Int64} {t_m : Nat → Int32} {N : Nat} {K49 : Int32 → (Nat → Int32) → Prop} (hK49 : ∀ (x1 : Int32) (t_counts : Nat → Int32), K49 x1 t_counts → vV p l e rm_X6_count s m args below meth c Q9 3 D A 0 0 [(q_t, .inr (6, [.ref q_t_m, .ref q_t_saved, .int t_savedCount, .ref q_t_text, .int t_textLength, .int t_code, .int t_at, .ref q_t_read, .int t_number, .ref q_t_counts, .ref q_t_scores, .ref q_t_isIn, .ref q_t_order, .int t_ranked, .int t_emptySide, .ref q_t_row, .ref q_t_listing, .int t_listingLength, .long t_hash])), (q_t_m, .inl (cy 0, 378, .inl t_m)), (q_t_counts, .inl (cy 0, 96, .inl t_counts))] 49 [(0, .ref q_t), (1, .int x1)] []) : ∀ (n : Nat) (x1 : Int32) (t_counts : Nat → Int32), p_X6_count_2 N t_savedCount t_textLength t_code t_at t_number t_ranked t_emptySide t_listingLength t_hash t_m K49 n x1 t_counts → vV p l e rm_X6_count s m args below meth c Q9 3 D A 0 0 [(q_t, .inr (6, [.ref q_t_m, .ref q_t_saved, .int t_savedCount, .ref q_t_text, .int t_textLength, .int t_code, .int t_at, .ref q_t_read, .int t_number, .ref q_t_counts, .ref q_t_scores, .ref q_t_isIn, .ref q_t_order, .int t_ranked, .int t_emptySide, .ref q_t_row, .ref q_t_listing, .int t_listingLength, .long t_hash])), (q_t_m, .inl (cy 0, 378, .inl t_m)), (q_t_counts, .inl (cy 0, 96, .inl t_counts))] 2 [(0, .ref q_t), (1, .int x1)] [] := by
  intro n
  induction n with
  | zero => intro x1 t_counts h; exact False.elim h
  | succ n ih =>
    intro x1 t_counts h
    unfold p_X6_count_2 at h
    refine v_iload_n cx dX6_count_2 rfl 1 rfl ?_
    refine v_bipush (v := 6) cx dX6_count_3 (by decide) ?_
    refine v_icmp_ge (tgt := 49) cx dX6_count_5 (by decide) h (fun h => ?_) (fun h => ?_)
    · refine v_lv (lv' := [(0, .ref q_t), (1, .int x1)]) [0, 1] rfl ?_
      exact hK49 _ _ h
    · refine v_iconst (v := 0) cx dX6_count_8 (by decide) ?_
      refine v_istore_n (lv' := [(2, .int 0), (0, .ref q_t), (1, .int x1)]) cx dX6_count_9 rfl (by decide) rfl ?_
      refine v_lv (lv' := [(0, .ref q_t), (1, .int x1), (2, .int 0)]) [1, 2, 0] rfl ?_
      refine w_X6_count_10 cx q_t q_t_m q_t_saved q_t_text q_t_read q_t_counts q_t_scores q_t_isIn q_t_order q_t_row q_t_listing ?_ N _ _ h
      · intro x2_2 t_counts_3 h
        refine v_iinc (v := x1 + 1) (k0 := 1) (lv' := [(1, .int (x1 + 1)), (0, .ref q_t), (2, .int x2_2)]) cx dX6_count_43 rfl rfl (by decide) rfl ?_
        refine v_goto (tgt := 2) cx dX6_count_46 (by decide) ?_
        refine v_lv (lv' := [(0, .ref q_t), (1, .int (x1 + 1))]) [1, 0] rfl ?_
        exact ih _ _ h
set_option maxHeartbeats 4000000 in
set_option maxRecDepth 100000 in
theorem c_X6_count (l : Launch) (g : gT) (D : va_G) (cy : Nat → ClassId) (q_t q_t_m q_t_saved q_t_text q_t_read q_t_counts q_t_scores q_t_isIn q_t_order q_t_row q_t_listing : Nat) {t_savedCount : Int32} {t_textLength : Int32} {t_code : Int32} {t_at : Int32} {t_number : Int32} {t_ranked : Int32} {t_emptySide : Int32} {t_listingLength : Int32} {t_hash : Int64} {t_m : Nat → Int32} {t_counts : Nat → Int32} {N : Nat} {Q : (Nat → Int32) → Prop} (h : p_X6_count N t_savedCount t_textLength t_code t_at t_number t_ranked t_emptySide t_listingLength t_hash t_m t_counts Q) : UC l yX6_count cX6_count 3 none rm_X6_count g D cy [.ref q_t] [(q_t, .inr (6, [.ref q_t_m, .ref q_t_saved, .int t_savedCount, .ref q_t_text, .int t_textLength, .int t_code, .int t_at, .ref q_t_read, .int t_number, .ref q_t_counts, .ref q_t_scores, .ref q_t_isIn, .ref q_t_order, .int t_ranked, .int t_emptySide, .ref q_t_row, .ref q_t_listing, .int t_listingLength, .long t_hash])), (q_t_m, .inl (cy 0, 378, .inl t_m)), (q_t_counts, .inl (cy 0, 96, .inl t_counts))] (fun v w => ∃ (t_counts' : Nat → Int32), v = none ∧ w = [(q_t, .inr (6, [.ref q_t_m, .ref q_t_saved, .int t_savedCount, .ref q_t_text, .int t_textLength, .int t_code, .int t_at, .ref q_t_read, .int t_number, .ref q_t_counts, .ref q_t_scores, .ref q_t_isIn, .ref q_t_order, .int t_ranked, .int t_emptySide, .ref q_t_row, .ref q_t_listing, .int t_listingLength, .long t_hash])), (q_t_m, .inl (cy 0, 378, .inl t_m)), (q_t_counts, .inl (cy 0, 96, .inl t_counts'))] ∧ Q t_counts') := by
  refine UC_of (by decide +kernel) (Nat.le_of_ble_eq_true rfl) [(0, .ref q_t)] rfl (fun p e s m args below meth c A cx => ?_)
  unfold p_X6_count at h
  refine v_iconst (v := 0) cx dX6_count_0 (by decide) ?_
  refine v_istore_n (lv' := [(1, .int 0), (0, .ref q_t)]) cx dX6_count_1 rfl (by decide) rfl ?_
  refine v_lv (lv' := [(0, .ref q_t), (1, .int 0)]) [1, 0] rfl ?_
  refine w_X6_count_2 cx q_t q_t_m q_t_saved q_t_text q_t_read q_t_counts q_t_scores q_t_isIn q_t_order q_t_row q_t_listing ?_ N _ _ h
  · intro x1_4 t_counts_5 h
    exact v_return cx dX6_count_49 ⟨_, rfl, rfl, h⟩
abbrev rm_X6_score : Room := { frames := 2, cells := 0, slots := 0, locals := 47 }
set_option maxHeartbeats 4000000 in
set_option maxRecDepth 100000 in
theorem w_X6_score_10 {p : Program} {l : Launch} {e : Env} {s : State} {m : MethodId} {args : Array Value} {below : List Frame} {meth : Method} {c : Code} {Q9 : State → Prop} {mn : String} {Ts : List Cond} {D : va_G} {cy : Nat → ClassId} {g : gT} {A : Nat → Prop} (cx : vC p s m args meth c cX6_score 4 (some .int) RX6 mn Ts D cy g A) (q_t q_t_m q_t_saved q_t_text q_t_read q_t_counts q_t_scores q_t_isIn q_t_order q_t_row q_t_listing : Nat) {x1 : Int32} {t_savedCount : Int32} {t_textLength : Int32} {t_code : Int32} {t_at : Int32} {t_number : Int32} {t_ranked : Int32} {t_emptySide : Int32} {t_listingLength : Int32} {t_hash : Int64} {t_m : Nat → Int32} {t_counts : Nat → Int32} {N : Nat} {K35 : Int32 → Int32 → Prop} (hK35 : ∀ (x2 : Int32) (x3 : Int32), K35 x2 x3 → vV p l e rm_X6_score s m args below meth c Q9 4 D A 0 0 [(q_t, .inr (6, [.ref q_t_m, .ref q_t_saved, .int t_savedCount, .ref q_t_text, .int t_textLength, .int t_code, .int t_at, .ref q_t_read, .int t_number, .ref q_t_counts, .ref q_t_scores, .ref q_t_isIn, .ref q_t_order, .int t_ranked, .int t_emptySide, .ref q_t_row, .ref q_t_listing, .int t_listingLength, .long t_hash])), (q_t_m, .inl (cy 0, 378, .inl t_m)), (q_t_counts, .inl (cy 0, 96, .inl t_counts))] 35 [(0, .ref q_t), (1, .int x1), (2, .int x2), (3, .int x3)] []) : ∀ (n : Nat) (x2 : Int32) (x3 : Int32), p_X6_score_10 N x1 t_savedCount t_textLength t_code t_at t_number t_ranked t_emptySide t_listingLength t_hash t_m t_counts K35 n x2 x3 → vV p l e rm_X6_score s m args below meth c Q9 4 D A 0 0 [(q_t, .inr (6, [.ref q_t_m, .ref q_t_saved, .int t_savedCount, .ref q_t_text, .int t_textLength, .int t_code, .int t_at, .ref q_t_read, .int t_number, .ref q_t_counts, .ref q_t_scores, .ref q_t_isIn, .ref q_t_order, .int t_ranked, .int t_emptySide, .ref q_t_row, .ref q_t_listing, .int t_listingLength, .long t_hash])), (q_t_m, .inl (cy 0, 378, .inl t_m)), (q_t_counts, .inl (cy 0, 96, .inl t_counts))] 10 [(0, .ref q_t), (1, .int x1), (2, .int x2), (3, .int x3)] [] := by
  intro n
  induction n with
  | zero => intro x2 x3 h; exact False.elim h
  | succ n ih =>
    intro x2 x3 h
    unfold p_X6_score_10 at h
    refine v_iload_n cx dX6_score_10 rfl 3 rfl ?_
    refine v_bipush (v := 6) cx dX6_score_11 (by decide) ?_
    refine v_icmp_ge (tgt := 35) cx dX6_score_13 (by decide) h (fun h => ?_) (fun h => ?_)
    · refine v_lv (lv' := [(0, .ref q_t), (1, .int x1), (2, .int x2), (3, .int x3)]) [0, 1, 2, 3] rfl ?_
      exact hK35 _ _ h
    · refine v_iload_n cx dX6_score_16 rfl 2 rfl ?_
      refine v_aload_n cx dX6_score_17 rfl 0 rfl ?_
      refine v_iload_n cx dX6_score_18 rfl 3 rfl ?_
      refine v_iload_n cx dX6_score_19 rfl 1 rfl ?_
      refine v_callVpi (As := [.int x3, .int x1]) cx (c_X6_weightIn l g D cy q_t q_t_m q_t_saved q_t_text q_t_read q_t_counts q_t_scores q_t_isIn q_t_order q_t_row q_t_listing h) k_X6_155 (by decide) ⟨rfl, rfl⟩ (by decide) rfl rfl (Nat.le_of_ble_eq_true rfl) dX6_score_20 [0, 2, 1] [] (by decide) (vj_all 3 rfl (by decide +kernel)) rfl rfl rfl (q0 := 0) rfl rfl (fun r_2 h => ?_)
      refine v_imul cx dX6_score_23 ?_
      refine v_sipush (v := 1000) cx dX6_score_24 (by decide) ?_
      refine v_idiv cx dX6_score_27 (by decide) ?_
      refine v_istore_n (lv' := [(2, .int ((x2 * r_2) / 1000)), (0, .ref q_t), (1, .int x1), (3, .int x3)]) cx dX6_score_28 rfl (by decide) rfl ?_
      refine v_iinc (v := x3 + 1) (k0 := 3) (lv' := [(3, .int (x3 + 1)), (2, .int ((x2 * r_2) / 1000)), (0, .ref q_t), (1, .int x1)]) cx dX6_score_29 rfl rfl (by decide) rfl ?_
      refine v_goto (tgt := 10) cx dX6_score_32 (by decide) ?_
      refine v_lv (lv' := [(0, .ref q_t), (1, .int x1), (2, .int ((x2 * r_2) / 1000)), (3, .int (x3 + 1))]) [2, 3, 1, 0] rfl ?_
      exact ih _ _ h
set_option maxHeartbeats 4000000 in
set_option maxRecDepth 100000 in
theorem c_X6_score (l : Launch) (g : gT) (D : va_G) (cy : Nat → ClassId) (q_t q_t_m q_t_saved q_t_text q_t_read q_t_counts q_t_scores q_t_isIn q_t_order q_t_row q_t_listing : Nat) {t_savedCount : Int32} {t_textLength : Int32} {t_code : Int32} {t_at : Int32} {t_number : Int32} {t_ranked : Int32} {t_emptySide : Int32} {t_listingLength : Int32} {t_hash : Int64} {t_m : Nat → Int32} {t_counts : Nat → Int32} {x1 : Int32} {N : Nat} {Q : Int32 → Prop} (h : p_X6_score N t_savedCount t_textLength t_code t_at t_number t_ranked t_emptySide t_listingLength t_hash t_m t_counts x1 Q) : UC l yX6_score cX6_score 4 (some .int) rm_X6_score g D cy [.ref q_t, .int x1] [(q_t, .inr (6, [.ref q_t_m, .ref q_t_saved, .int t_savedCount, .ref q_t_text, .int t_textLength, .int t_code, .int t_at, .ref q_t_read, .int t_number, .ref q_t_counts, .ref q_t_scores, .ref q_t_isIn, .ref q_t_order, .int t_ranked, .int t_emptySide, .ref q_t_row, .ref q_t_listing, .int t_listingLength, .long t_hash])), (q_t_m, .inl (cy 0, 378, .inl t_m)), (q_t_counts, .inl (cy 0, 96, .inl t_counts))] (fun v w => w = [(q_t, .inr (6, [.ref q_t_m, .ref q_t_saved, .int t_savedCount, .ref q_t_text, .int t_textLength, .int t_code, .int t_at, .ref q_t_read, .int t_number, .ref q_t_counts, .ref q_t_scores, .ref q_t_isIn, .ref q_t_order, .int t_ranked, .int t_emptySide, .ref q_t_row, .ref q_t_listing, .int t_listingLength, .long t_hash])), (q_t_m, .inl (cy 0, 378, .inl t_m)), (q_t_counts, .inl (cy 0, 96, .inl t_counts))] ∧ ∃ r : Int32, v = some (.int r) ∧ Q r) := by
  refine UC_of (by decide +kernel) (Nat.le_of_ble_eq_true rfl) [(0, .ref q_t), (1, .int x1)] rfl (fun p e s m args below meth c A cx => ?_)
  unfold p_X6_score at h
  refine v_aload_n cx dX6_score_0 rfl 0 rfl ?_
  refine v_iload_n cx dX6_score_1 rfl 1 rfl ?_
  refine v_bipush (v := 7) cx dX6_score_2 (by decide) ?_
  refine v_callVpi (As := [.int x1, .int 7]) cx (c_X6_of l g D cy q_t q_t_m q_t_saved q_t_text q_t_read q_t_counts q_t_scores q_t_isIn q_t_order q_t_row q_t_listing h) k_X6_118 (by decide) ⟨rfl, rfl⟩ (by decide) rfl rfl (Nat.le_of_ble_eq_true rfl) dX6_score_4 [0, 1] [2] (by decide) (vj_all 3 rfl (by decide +kernel)) rfl rfl rfl (q0 := 0) rfl rfl (fun r_1 h => ?_)
  refine v_istore_n (lv' := [(2, .int r_1), (0, .ref q_t), (1, .int x1)]) cx dX6_score_7 rfl (by decide) rfl ?_
  refine v_iconst (v := 0) cx dX6_score_8 (by decide) ?_
  refine v_istore_n (lv' := [(3, .int 0), (2, .int r_1), (0, .ref q_t), (1, .int x1)]) cx dX6_score_9 rfl (by decide) rfl ?_
  refine v_lv (lv' := [(0, .ref q_t), (1, .int x1), (2, .int r_1), (3, .int 0)]) [2, 3, 1, 0] rfl ?_
  refine w_X6_score_10 cx q_t q_t_m q_t_saved q_t_text q_t_read q_t_counts q_t_scores q_t_isIn q_t_order q_t_row q_t_listing ?_ N _ _ h
  · intro x2_3 x3_4 h
    refine v_iload_n cx dX6_score_35 rfl 2 rfl ?_
    exact v_ireturn cx rfl dX6_score_36 ⟨rfl, _, rfl, h⟩
abbrev rm_X6_placeFor : Room := { frames := 1, cells := 0, slots := 0, locals := 22 }
set_option maxHeartbeats 4000000 in
set_option maxRecDepth 100000 in
theorem c_X6_placeFor (l : Launch) (g : gT) (D : va_G) (cy : Nat → ClassId) (q_t q_t_m q_t_saved q_t_text q_t_read q_t_counts q_t_scores q_t_isIn q_t_order q_t_row q_t_listing : Nat) {t_savedCount : Int32} {t_textLength : Int32} {t_code : Int32} {t_at : Int32} {t_number : Int32} {t_ranked : Int32} {t_emptySide : Int32} {t_listingLength : Int32} {t_hash : Int64} {t_counts : Nat → Int32} {x1 : Int32} {x2 : Int32} {N : Nat} {Q : Int32 → Prop} (h : p_X6_placeFor N t_savedCount t_textLength t_code t_at t_number t_ranked t_emptySide t_listingLength t_hash t_counts x1 x2 Q) : UC l yX6_placeFor cX6_placeFor 4 (some .int) rm_X6_placeFor g D cy [.ref q_t, .int x1, .int x2] [(q_t, .inr (6, [.ref q_t_m, .ref q_t_saved, .int t_savedCount, .ref q_t_text, .int t_textLength, .int t_code, .int t_at, .ref q_t_read, .int t_number, .ref q_t_counts, .ref q_t_scores, .ref q_t_isIn, .ref q_t_order, .int t_ranked, .int t_emptySide, .ref q_t_row, .ref q_t_listing, .int t_listingLength, .long t_hash])), (q_t_counts, .inl (cy 0, 96, .inl t_counts))] (fun v w => w = [(q_t, .inr (6, [.ref q_t_m, .ref q_t_saved, .int t_savedCount, .ref q_t_text, .int t_textLength, .int t_code, .int t_at, .ref q_t_read, .int t_number, .ref q_t_counts, .ref q_t_scores, .ref q_t_isIn, .ref q_t_order, .int t_ranked, .int t_emptySide, .ref q_t_row, .ref q_t_listing, .int t_listingLength, .long t_hash])), (q_t_counts, .inl (cy 0, 96, .inl t_counts))] ∧ ∃ r : Int32, v = some (.int r) ∧ Q r) := by
  refine UC_of (by decide +kernel) (Nat.le_of_ble_eq_true rfl) [(0, .ref q_t), (1, .int x1), (2, .int x2)] rfl (fun p e s m args below meth c A cx => ?_)
  unfold p_X6_placeFor at h
  refine v_aload_n cx dX6_placeFor_0 rfl 0 rfl ?_
  refine v_iload_n cx dX6_placeFor_1 rfl 1 rfl ?_
  refine v_iload_n cx dX6_placeFor_2 rfl 2 rfl ?_
  refine v_callVpi (As := [.int x1, .int x2]) cx (c_X6_entryFor l g D cy q_t q_t_m q_t_saved q_t_text q_t_read q_t_counts q_t_scores q_t_isIn q_t_order q_t_row q_t_listing h) k_X6_148 (by decide) ⟨rfl, rfl⟩ (by decide) rfl rfl (Nat.le_of_ble_eq_true rfl) dX6_placeFor_3 [0, 1] [] (by decide) (vj_all 2 rfl (by decide +kernel)) rfl rfl rfl (q0 := 0) rfl rfl (fun r_1 h => ?_)
  refine v_istore_n (lv' := [(3, .int r_1), (0, .ref q_t), (1, .int x1), (2, .int x2)]) cx dX6_placeFor_6 rfl (by decide) rfl ?_
  refine v_iload_n cx dX6_placeFor_7 rfl 0 rfl ?_
  refine v_iconst (v := (-1)) cx dX6_placeFor_8 (by decide) ?_
  refine v_icmp_ne (tgt := 17) cx dX6_placeFor_9 (by decide) h (fun h => ?_) (fun h => ?_)
  · refine v_iload_n cx dX6_placeFor_17 rfl 0 rfl ?_
    exact v_ireturn cx rfl dX6_placeFor_18 ⟨rfl, _, rfl, h⟩
  · refine v_bipush (v := 100) cx dX6_placeFor_12 (by decide) ?_
    refine v_goto (tgt := 18) cx dX6_placeFor_14 (by decide) ?_
    exact v_ireturn cx rfl dX6_placeFor_18 ⟨rfl, _, rfl, h⟩
abbrev rm_X6_ruled : Room := { frames := 2, cells := 0, slots := 0, locals := 45 }
set_option maxHeartbeats 4000000 in
set_option maxRecDepth 100000 in
theorem c_X6_ruled (l : Launch) (g : gT) (D : va_G) (cy : Nat → ClassId) (q_t q_t_m q_t_saved q_t_text q_t_read q_t_counts q_t_scores q_t_isIn q_t_order q_t_row q_t_listing : Nat) {t_savedCount : Int32} {t_textLength : Int32} {t_code : Int32} {t_at : Int32} {t_number : Int32} {t_ranked : Int32} {t_emptySide : Int32} {t_listingLength : Int32} {t_hash : Int64} {t_m : Nat → Int32} {t_counts : Nat → Int32} {x1 : Int32} {x2 : Int32} {N : Nat} {Q : Int32 → Prop} (h : p_X6_ruled N t_savedCount t_textLength t_code t_at t_number t_ranked t_emptySide t_listingLength t_hash t_m t_counts x1 x2 Q) : UC l yX6_ruled cX6_ruled 3 (some .int) rm_X6_ruled g D cy [.ref q_t, .int x1, .int x2] [(q_t, .inr (6, [.ref q_t_m, .ref q_t_saved, .int t_savedCount, .ref q_t_text, .int t_textLength, .int t_code, .int t_at, .ref q_t_read, .int t_number, .ref q_t_counts, .ref q_t_scores, .ref q_t_isIn, .ref q_t_order, .int t_ranked, .int t_emptySide, .ref q_t_row, .ref q_t_listing, .int t_listingLength, .long t_hash])), (q_t_m, .inl (cy 0, 378, .inl t_m)), (q_t_counts, .inl (cy 0, 96, .inl t_counts))] (fun v w => w = [(q_t, .inr (6, [.ref q_t_m, .ref q_t_saved, .int t_savedCount, .ref q_t_text, .int t_textLength, .int t_code, .int t_at, .ref q_t_read, .int t_number, .ref q_t_counts, .ref q_t_scores, .ref q_t_isIn, .ref q_t_order, .int t_ranked, .int t_emptySide, .ref q_t_row, .ref q_t_listing, .int t_listingLength, .long t_hash])), (q_t_m, .inl (cy 0, 378, .inl t_m)), (q_t_counts, .inl (cy 0, 96, .inl t_counts))] ∧ ∃ r : Int32, v = some (.int r) ∧ Q r) := by
  refine UC_of (by decide +kernel) (Nat.le_of_ble_eq_true rfl) [(0, .ref q_t), (1, .int x1), (2, .int x2)] rfl (fun p e s m args below meth c A cx => ?_)
  unfold p_X6_ruled at h
  refine v_iload_n cx dX6_ruled_0 rfl 1 rfl ?_
  by_cases hsw : x1.toInt < 1 ∨ 5 < x1.toInt
  · have h := h.1 hsw
    refine v_tableOut (tgt := 76) cx dX6_ruled_1 hsw (by decide) ?_
    refine v_iconst (v := 0) cx dX6_ruled_76 (by decide) ?_
    exact v_ireturn cx rfl dX6_ruled_77 ⟨rfl, _, rfl, h⟩
  · have hsw : x1.toInt = 1 ∨ x1.toInt = 2 ∨ x1.toInt = 3 ∨ x1.toInt = 4 ∨ x1.toInt = 5 := by omega
    obtain ⟨-, h1, h2, h3, h4, h5⟩ := h
    rcases hsw with hsw | hsw | hsw | hsw | hsw
    · have h := h1 hsw
      refine v_tableIn (tgt := 36) (z := 1) cx dX6_ruled_1 hsw ⟨by decide, by decide, rfl⟩ (by decide) ?_
      refine v_aload_n cx dX6_ruled_36 rfl 0 rfl ?_
      refine v_iload_n cx dX6_ruled_37 rfl 2 rfl ?_
      refine v_bipush (v := 6) cx dX6_ruled_38 (by decide) ?_
      refine v_callVpi (As := [.int x2, .int 6]) cx (c_X6_of l g D cy q_t q_t_m q_t_saved q_t_text q_t_read q_t_counts q_t_scores q_t_isIn q_t_order q_t_row q_t_listing h) k_X6_118 (by decide) ⟨rfl, rfl⟩ (by decide) rfl rfl (Nat.le_of_ble_eq_true rfl) dX6_ruled_40 [0, 1] [2] (by decide) (vj_all 3 rfl (by decide +kernel)) rfl rfl rfl (q0 := 0) rfl rfl (fun r_1 h => ?_)
      exact v_ireturn cx rfl dX6_ruled_43 ⟨rfl, _, rfl, h⟩
    · have h := h2 hsw
      refine v_tableIn (tgt := 44) (z := 2) cx dX6_ruled_1 hsw ⟨by decide, by decide, rfl⟩ (by decide) ?_
      refine v_aload_n cx dX6_ruled_44 rfl 0 rfl ?_
      refine v_iload_n cx dX6_ruled_45 rfl 2 rfl ?_
      refine v_bipush (v := 6) cx dX6_ruled_46 (by decide) ?_
      refine v_callVpi (As := [.int x2, .int 6]) cx (c_X6_of l g D cy q_t q_t_m q_t_saved q_t_text q_t_read q_t_counts q_t_scores q_t_isIn q_t_order q_t_row q_t_listing h) k_X6_118 (by decide) ⟨rfl, rfl⟩ (by decide) rfl rfl (Nat.le_of_ble_eq_true rfl) dX6_ruled_48 [0, 1] [2] (by decide) (vj_all 3 rfl (by decide +kernel)) rfl rfl rfl (q0 := 0) rfl rfl (fun r_2 h => ?_)
      refine v_ineg cx dX6_ruled_51 ?_
      exact v_ireturn cx rfl dX6_ruled_52 ⟨rfl, _, rfl, h⟩
    · have h := h3 hsw
      refine v_tableIn (tgt := 53) (z := 3) cx dX6_ruled_1 hsw ⟨by decide, by decide, rfl⟩ (by decide) ?_
      refine v_aload_n cx dX6_ruled_53 rfl 0 rfl ?_
      refine v_iconst (v := 0) cx dX6_ruled_54 (by decide) ?_
      refine v_iload_n cx dX6_ruled_55 rfl 2 rfl ?_
      refine v_callVpi (As := [.int 0, .int x2]) cx (c_X6_placeFor l g D cy q_t q_t_m q_t_saved q_t_text q_t_read q_t_counts q_t_scores q_t_isIn q_t_order q_t_row q_t_listing h) k_X6_158 (by decide) ⟨rfl, rfl⟩ (by decide) rfl rfl (Nat.le_of_ble_eq_true rfl) dX6_ruled_56 [0, 2] [1] (by decide) (vj_all 3 rfl (by decide +kernel)) rfl rfl rfl (q0 := 0) rfl rfl (fun r_3 h => ?_)
      exact v_ireturn cx rfl dX6_ruled_59 ⟨rfl, _, rfl, h⟩
    · have h := h4 hsw
      refine v_tableIn (tgt := 60) (z := 4) cx dX6_ruled_1 hsw ⟨by decide, by decide, rfl⟩ (by decide) ?_
      refine v_aload_n cx dX6_ruled_60 rfl 0 rfl ?_
      refine v_iconst (v := 1) cx dX6_ruled_61 (by decide) ?_
      refine v_iload_n cx dX6_ruled_62 rfl 2 rfl ?_
      refine v_callVpi (As := [.int 1, .int x2]) cx (c_X6_placeFor l g D cy q_t q_t_m q_t_saved q_t_text q_t_read q_t_counts q_t_scores q_t_isIn q_t_order q_t_row q_t_listing h) k_X6_158 (by decide) ⟨rfl, rfl⟩ (by decide) rfl rfl (Nat.le_of_ble_eq_true rfl) dX6_ruled_63 [0, 2] [1] (by decide) (vj_all 3 rfl (by decide +kernel)) rfl rfl rfl (q0 := 0) rfl rfl (fun r_4 h => ?_)
      exact v_ireturn cx rfl dX6_ruled_66 ⟨rfl, _, rfl, h⟩
    · have h := h5 hsw
      refine v_tableIn (tgt := 67) (z := 5) cx dX6_ruled_1 hsw ⟨by decide, by decide, rfl⟩ (by decide) ?_
      refine v_aload_n cx dX6_ruled_67 rfl 0 rfl ?_
      refine v_iload_n cx dX6_ruled_68 rfl 2 rfl ?_
      refine v_bipush (v := 7) cx dX6_ruled_69 (by decide) ?_
      refine v_callVpi (As := [.int x2, .int 7]) cx (c_X6_of l g D cy q_t q_t_m q_t_saved q_t_text q_t_read q_t_counts q_t_scores q_t_isIn q_t_order q_t_row q_t_listing h) k_X6_118 (by decide) ⟨rfl, rfl⟩ (by decide) rfl rfl (Nat.le_of_ble_eq_true rfl) dX6_ruled_71 [0, 1] [2] (by decide) (vj_all 3 rfl (by decide +kernel)) rfl rfl rfl (q0 := 0) rfl rfl (fun r_5 h => ?_)
      refine v_ineg cx dX6_ruled_74 ?_
      exact v_ireturn cx rfl dX6_ruled_75 ⟨rfl, _, rfl, h⟩
abbrev rm_X6_isAhead : Room := { frames := 3, cells := 0, slots := 0, locals := 67 }
set_option maxHeartbeats 4000000 in
set_option maxRecDepth 100000 in
theorem w_X6_isAhead_17 {p : Program} {l : Launch} {e : Env} {s : State} {m : MethodId} {args : Array Value} {below : List Frame} {meth : Method} {c : Code} {Q9 : State → Prop} {mn : String} {Ts : List Cond} {D : va_G} {cy : Nat → ClassId} {g : gT} {A : Nat → Prop} (cx : vC p s m args meth c cX6_isAhead 5 (some .boolean) RX6 mn Ts D cy g A) (q_t q_t_m q_t_saved q_t_text q_t_read q_t_counts q_t_scores q_t_isIn q_t_order q_t_row q_t_listing : Nat) {x1 : Int32} {x2 : Int32} {t_savedCount : Int32} {t_textLength : Int32} {t_code : Int32} {t_at : Int32} {t_number : Int32} {t_ranked : Int32} {t_emptySide : Int32} {t_listingLength : Int32} {t_hash : Int64} {t_scores : Nat → Int32} {t_m : Nat → Int32} {t_counts : Nat → Int32} {N : Nat} {K63 : Int32 → Int32 → Prop} (hK63 : ∀ (x3 : Int32) (x4 : Int32), K63 x3 x4 → vV p l e rm_X6_isAhead s m args below meth c Q9 5 D A 0 0 [(q_t, .inr (6, [.ref q_t_m, .ref q_t_saved, .int t_savedCount, .ref q_t_text, .int t_textLength, .int t_code, .int t_at, .ref q_t_read, .int t_number, .ref q_t_counts, .ref q_t_scores, .ref q_t_isIn, .ref q_t_order, .int t_ranked, .int t_emptySide, .ref q_t_row, .ref q_t_listing, .int t_listingLength, .long t_hash])), (q_t_scores, .inl (cy 0, 16, .inl t_scores)), (q_t_m, .inl (cy 0, 378, .inl t_m)), (q_t_counts, .inl (cy 0, 96, .inl t_counts))] 63 [(0, .ref q_t), (1, .int x1), (2, .int x2), (3, .int x3), (4, .int x4)] []) : ∀ (n : Nat) (x3 : Int32) (x4 : Int32), p_X6_isAhead_17 N x1 x2 t_savedCount t_textLength t_code t_at t_number t_ranked t_emptySide t_listingLength t_hash t_scores t_m t_counts K63 n x3 x4 → vV p l e rm_X6_isAhead s m args below meth c Q9 5 D A 0 0 [(q_t, .inr (6, [.ref q_t_m, .ref q_t_saved, .int t_savedCount, .ref q_t_text, .int t_textLength, .int t_code, .int t_at, .ref q_t_read, .int t_number, .ref q_t_counts, .ref q_t_scores, .ref q_t_isIn, .ref q_t_order, .int t_ranked, .int t_emptySide, .ref q_t_row, .ref q_t_listing, .int t_listingLength, .long t_hash])), (q_t_scores, .inl (cy 0, 16, .inl t_scores)), (q_t_m, .inl (cy 0, 378, .inl t_m)), (q_t_counts, .inl (cy 0, 96, .inl t_counts))] 17 [(0, .ref q_t), (1, .int x1), (2, .int x2), (3, .int x3), (4, .int x4)] [] := by
  intro n
  induction n with
  | zero => intro x3 x4 h; exact False.elim h
  | succ n ih =>
    intro x3 x4 h
    unfold p_X6_isAhead_17 at h
    refine v_iload cx dX6_isAhead_17 4 rfl ?_
    refine v_iconst (v := 3) cx dX6_isAhead_19 (by decide) ?_
    refine v_icmp_ge (tgt := 63) cx dX6_isAhead_20 (by decide) h (fun h => ?_) (fun h => ?_)
    · refine v_lv (lv' := [(0, .ref q_t), (1, .int x1), (2, .int x2), (3, .int x3), (4, .int x4)]) [0, 1, 2, 3, 4] rfl ?_
      exact hK63 _ _ h
    · refine v_iload_n cx dX6_isAhead_23 rfl 3 rfl ?_
      refine v_if_ne (tgt := 63) cx dX6_isAhead_24 (by decide) h (fun h => ?_) (fun h => ?_)
      · refine v_lv (lv' := [(0, .ref q_t), (1, .int x1), (2, .int x2), (3, .int x3), (4, .int x4)]) [0, 1, 2, 3, 4] rfl ?_
        exact hK63 _ _ h
      · refine v_aload_n cx dX6_isAhead_27 rfl 0 rfl ?_
        refine v_aload_n cx dX6_isAhead_28 rfl 0 rfl ?_
        refine g_X6_7 cx dX6_isAhead_29 0 rfl rfl ?_
        refine v_iconst (v := 1) cx dX6_isAhead_32 (by decide) ?_
        refine v_iload cx dX6_isAhead_33 4 rfl ?_
        refine v_iadd cx dX6_isAhead_35 ?_
        refine v_iald cx dX6_isAhead_36 2 rfl h (fun h => ?_)
        refine v_iload_n cx dX6_isAhead_37 rfl 1 rfl ?_
        refine v_callVpi (As := [.int (t_m (1 + x4).toNatClampNeg), .int x1]) cx (c_X6_ruled l g D cy q_t q_t_m q_t_saved q_t_text q_t_read q_t_counts q_t_scores q_t_isIn q_t_order q_t_row q_t_listing h) k_X6_161 (by decide) ⟨rfl, rfl⟩ (by decide) rfl rfl (Nat.le_of_ble_eq_true rfl) dX6_isAhead_38 [0, 2, 3] [1] (by decide) (vj_all 4 rfl (by decide +kernel)) rfl rfl rfl (q0 := 0) rfl rfl (fun r_1 h => ?_)
        refine v_aload_n cx dX6_isAhead_41 rfl 0 rfl ?_
        refine v_aload_n cx dX6_isAhead_42 rfl 0 rfl ?_
        refine g_X6_7 cx dX6_isAhead_43 0 rfl rfl ?_
        refine v_iconst (v := 1) cx dX6_isAhead_46 (by decide) ?_
        refine v_iload cx dX6_isAhead_47 4 rfl ?_
        refine v_iadd cx dX6_isAhead_49 ?_
        refine v_iald cx dX6_isAhead_50 2 rfl h (fun h => ?_)
        refine v_iload_n cx dX6_isAhead_51 rfl 2 rfl ?_
        refine v_callVpi (As := [.int (t_m (1 + x4).toNatClampNeg), .int x2]) cx (c_X6_ruled l g D cy q_t q_t_m q_t_saved q_t_text q_t_read q_t_counts q_t_scores q_t_isIn q_t_order q_t_row q_t_listing h) k_X6_161 (by decide) ⟨rfl, rfl⟩ (by decide) rfl rfl (Nat.le_of_ble_eq_true rfl) dX6_isAhead_52 [0, 2, 3] [1] (by decide) (vj_all 4 rfl (by decide +kernel)) rfl rfl rfl (q0 := 0) rfl rfl (fun r_2 h => ?_)
        refine v_isub cx dX6_isAhead_55 ?_
        refine v_istore_n (lv' := [(3, .int (r_1 - r_2)), (0, .ref q_t), (1, .int x1), (2, .int x2), (4, .int x4)]) cx dX6_isAhead_56 rfl (by decide) rfl ?_
        refine v_iinc (v := x4 + 1) (k0 := 4) (lv' := [(4, .int (x4 + 1)), (3, .int (r_1 - r_2)), (0, .ref q_t), (1, .int x1), (2, .int x2)]) cx dX6_isAhead_57 rfl rfl (by decide) rfl ?_
        refine v_goto (tgt := 17) cx dX6_isAhead_60 (by decide) ?_
        refine v_lv (lv' := [(0, .ref q_t), (1, .int x1), (2, .int x2), (3, .int (r_1 - r_2)), (4, .int (x4 + 1))]) [2, 3, 4, 1, 0] rfl ?_
        exact ih _ _ h
set_option maxHeartbeats 4000000 in
set_option maxRecDepth 100000 in
theorem c_X6_isAhead (l : Launch) (g : gT) (D : va_G) (cy : Nat → ClassId) (q_t q_t_m q_t_saved q_t_text q_t_read q_t_counts q_t_scores q_t_isIn q_t_order q_t_row q_t_listing : Nat) {t_savedCount : Int32} {t_textLength : Int32} {t_code : Int32} {t_at : Int32} {t_number : Int32} {t_ranked : Int32} {t_emptySide : Int32} {t_listingLength : Int32} {t_hash : Int64} {t_scores : Nat → Int32} {t_m : Nat → Int32} {t_counts : Nat → Int32} {x1 : Int32} {x2 : Int32} {N : Nat} {Q : Int32 → Prop} (h : p_X6_isAhead N t_savedCount t_textLength t_code t_at t_number t_ranked t_emptySide t_listingLength t_hash t_scores t_m t_counts x1 x2 Q) : UC l yX6_isAhead cX6_isAhead 5 (some .boolean) rm_X6_isAhead g D cy [.ref q_t, .int x1, .int x2] [(q_t, .inr (6, [.ref q_t_m, .ref q_t_saved, .int t_savedCount, .ref q_t_text, .int t_textLength, .int t_code, .int t_at, .ref q_t_read, .int t_number, .ref q_t_counts, .ref q_t_scores, .ref q_t_isIn, .ref q_t_order, .int t_ranked, .int t_emptySide, .ref q_t_row, .ref q_t_listing, .int t_listingLength, .long t_hash])), (q_t_scores, .inl (cy 0, 16, .inl t_scores)), (q_t_m, .inl (cy 0, 378, .inl t_m)), (q_t_counts, .inl (cy 0, 96, .inl t_counts))] (fun v w => w = [(q_t, .inr (6, [.ref q_t_m, .ref q_t_saved, .int t_savedCount, .ref q_t_text, .int t_textLength, .int t_code, .int t_at, .ref q_t_read, .int t_number, .ref q_t_counts, .ref q_t_scores, .ref q_t_isIn, .ref q_t_order, .int t_ranked, .int t_emptySide, .ref q_t_row, .ref q_t_listing, .int t_listingLength, .long t_hash])), (q_t_scores, .inl (cy 0, 16, .inl t_scores)), (q_t_m, .inl (cy 0, 378, .inl t_m)), (q_t_counts, .inl (cy 0, 96, .inl t_counts))] ∧ ∃ r : Int32, v = some (.int r) ∧ Q r) := by
  refine UC_of (by decide +kernel) (Nat.le_of_ble_eq_true rfl) [(0, .ref q_t), (1, .int x1), (2, .int x2)] rfl (fun p e s m args below meth c A cx => ?_)
  unfold p_X6_isAhead at h
  refine v_aload_n cx dX6_isAhead_0 rfl 0 rfl ?_
  refine g_X6_25 cx dX6_isAhead_1 0 rfl rfl ?_
  refine v_iload_n cx dX6_isAhead_4 rfl 2 rfl ?_
  refine v_iald cx dX6_isAhead_5 1 rfl h (fun h => ?_)
  refine v_aload_n cx dX6_isAhead_6 rfl 0 rfl ?_
  refine g_X6_25 cx dX6_isAhead_7 0 rfl rfl ?_
  refine v_iload_n cx dX6_isAhead_10 rfl 1 rfl ?_
  refine v_iald cx dX6_isAhead_11 1 rfl h (fun h => ?_)
  refine v_isub cx dX6_isAhead_12 ?_
  refine v_istore_n (lv' := [(3, .int ((t_scores x2.toNatClampNeg) - (t_scores x1.toNatClampNeg))), (0, .ref q_t), (1, .int x1), (2, .int x2)]) cx dX6_isAhead_13 rfl (by decide) rfl ?_
  refine v_iconst (v := 0) cx dX6_isAhead_14 (by decide) ?_
  refine v_istore (lv' := [(4, .int 0), (3, .int ((t_scores x2.toNatClampNeg) - (t_scores x1.toNatClampNeg))), (0, .ref q_t), (1, .int x1), (2, .int x2)]) cx dX6_isAhead_15 (by decide) rfl ?_
  refine v_lv (lv' := [(0, .ref q_t), (1, .int x1), (2, .int x2), (3, .int ((t_scores x2.toNatClampNeg) - (t_scores x1.toNatClampNeg))), (4, .int 0)]) [2, 3, 4, 1, 0] rfl ?_
  refine w_X6_isAhead_17 cx q_t q_t_m q_t_saved q_t_text q_t_read q_t_counts q_t_scores q_t_isIn q_t_order q_t_row q_t_listing ?_ N _ _ h
  · intro x3_3 x4_4 h
    refine v_iload_n cx dX6_isAhead_63 rfl 3 rfl ?_
    refine v_if_eq (tgt := 79) cx dX6_isAhead_64 (by decide) h (fun h => ?_) (fun h => ?_)
    · refine v_iload_n cx dX6_isAhead_79 rfl 1 rfl ?_
      refine v_iload_n cx dX6_isAhead_80 rfl 2 rfl ?_
      refine v_icmp_ge (tgt := 88) cx dX6_isAhead_81 (by decide) h (fun h => ?_) (fun h => ?_)
      · refine v_iconst (v := 0) cx dX6_isAhead_88 (by decide) ?_
        exact v_ireturn cx rfl dX6_isAhead_89 ⟨rfl, _, rfl, h⟩
      · refine v_iconst (v := 1) cx dX6_isAhead_84 (by decide) ?_
        refine v_goto (tgt := 89) cx dX6_isAhead_85 (by decide) ?_
        exact v_ireturn cx rfl dX6_isAhead_89 ⟨rfl, _, rfl, h⟩
    · refine v_iload_n cx dX6_isAhead_67 rfl 3 rfl ?_
      refine v_if_ge (tgt := 75) cx dX6_isAhead_68 (by decide) h (fun h => ?_) (fun h => ?_)
      · refine v_iconst (v := 0) cx dX6_isAhead_75 (by decide) ?_
        refine v_goto (tgt := 89) cx dX6_isAhead_76 (by decide) ?_
        exact v_ireturn cx rfl dX6_isAhead_89 ⟨rfl, _, rfl, h⟩
      · refine v_iconst (v := 1) cx dX6_isAhead_71 (by decide) ?_
        refine v_goto (tgt := 89) cx dX6_isAhead_72 (by decide) ?_
        exact v_ireturn cx rfl dX6_isAhead_89 ⟨rfl, _, rfl, h⟩
abbrev rm_X6_rank : Room := { frames := 4, cells := 0, slots := 0, locals := 91 }
set_option maxHeartbeats 4000000 in
set_option maxRecDepth 100000 in
theorem w_X6_rank_58 {p : Program} {l : Launch} {e : Env} {s : State} {m : MethodId} {args : Array Value} {below : List Frame} {meth : Method} {c : Code} {Q9 : State → Prop} {mn : String} {Ts : List Cond} {D : va_G} {cy : Nat → ClassId} {g : gT} {A : Nat → Prop} (cx : vC p s m args meth c cX6_rank 4 none RX6 mn Ts D cy g A) (q_t q_t_m q_t_saved q_t_text q_t_read q_t_counts q_t_scores q_t_isIn q_t_order q_t_row q_t_listing : Nat) {x1 : Int32} {x2 : Int32} {t_savedCount : Int32} {t_textLength : Int32} {t_code : Int32} {t_at : Int32} {t_number : Int32} {t_ranked : Int32} {t_emptySide : Int32} {t_listingLength : Int32} {t_hash : Int64} {t_m : Nat → Int32} {t_counts : Nat → Int32} {t_scores : Nat → Int32} {t_isIn : Nat → Int32} {N : Nat} {K107 : Int32 → (Nat → Int32) → Prop} (hK107 : ∀ (x3 : Int32) (t_order : Nat → Int32), K107 x3 t_order → vV p l e rm_X6_rank s m args below meth c Q9 4 D A 0 0 [(q_t, .inr (6, [.ref q_t_m, .ref q_t_saved, .int t_savedCount, .ref q_t_text, .int t_textLength, .int t_code, .int t_at, .ref q_t_read, .int t_number, .ref q_t_counts, .ref q_t_scores, .ref q_t_isIn, .ref q_t_order, .int t_ranked, .int t_emptySide, .ref q_t_row, .ref q_t_listing, .int t_listingLength, .long t_hash])), (q_t_m, .inl (cy 0, 378, .inl t_m)), (q_t_counts, .inl (cy 0, 96, .inl t_counts)), (q_t_scores, .inl (cy 0, 16, .inl t_scores)), (q_t_isIn, .inl (cy 3, 16, .inl t_isIn)), (q_t_order, .inl (cy 0, 16, .inl t_order))] 107 [(0, .ref q_t), (1, .int x1), (2, .int x2), (3, .int x3)] []) : ∀ (n : Nat) (x3 : Int32) (t_order : Nat → Int32), p_X6_rank_58 N x1 x2 t_savedCount t_textLength t_code t_at t_number t_ranked t_emptySide t_listingLength t_hash t_m t_counts t_scores t_isIn K107 n x3 t_order → vV p l e rm_X6_rank s m args below meth c Q9 4 D A 0 0 [(q_t, .inr (6, [.ref q_t_m, .ref q_t_saved, .int t_savedCount, .ref q_t_text, .int t_textLength, .int t_code, .int t_at, .ref q_t_read, .int t_number, .ref q_t_counts, .ref q_t_scores, .ref q_t_isIn, .ref q_t_order, .int t_ranked, .int t_emptySide, .ref q_t_row, .ref q_t_listing, .int t_listingLength, .long t_hash])), (q_t_m, .inl (cy 0, 378, .inl t_m)), (q_t_counts, .inl (cy 0, 96, .inl t_counts)), (q_t_scores, .inl (cy 0, 16, .inl t_scores)), (q_t_isIn, .inl (cy 3, 16, .inl t_isIn)), (q_t_order, .inl (cy 0, 16, .inl t_order))] 58 [(0, .ref q_t), (1, .int x1), (2, .int x2), (3, .int x3)] [] := by
  intro n
  induction n with
  | zero => intro x3 t_order h; exact False.elim h
  | succ n ih =>
    intro x3 t_order h
    unfold p_X6_rank_58 at h
    refine v_aload_n cx dX6_rank_58 rfl 0 rfl ?_
    refine g_X6_28 cx dX6_rank_59 0 rfl rfl ?_
    refine v_iload_n cx dX6_rank_62 rfl 2 rfl ?_
    refine v_zald cx dX6_rank_63 4 rfl h (fun h => ?_)
    refine v_if_eq (tgt := 107) cx dX6_rank_64 (by decide) h (fun h => ?_) (fun h => ?_)
    · refine v_lv (lv' := [(0, .ref q_t), (1, .int x1), (2, .int x2), (3, .int x3)]) [0, 1, 2, 3] rfl ?_
      exact hK107 _ _ h
    · refine v_iload_n cx dX6_rank_67 rfl 3 rfl ?_
      refine v_if_le (tgt := 107) cx dX6_rank_68 (by decide) h (fun h => ?_) (fun h => ?_)
      · refine v_lv (lv' := [(0, .ref q_t), (1, .int x1), (2, .int x2), (3, .int x3)]) [0, 1, 2, 3] rfl ?_
        exact hK107 _ _ h
      · refine v_aload_n cx dX6_rank_71 rfl 0 rfl ?_
        refine v_iload_n cx dX6_rank_72 rfl 2 rfl ?_
        refine v_aload_n cx dX6_rank_73 rfl 0 rfl ?_
        refine g_X6_32 cx dX6_rank_74 0 rfl rfl ?_
        refine v_iload_n cx dX6_rank_77 rfl 3 rfl ?_
        refine v_iconst (v := 1) cx dX6_rank_78 (by decide) ?_
        refine v_isub cx dX6_rank_79 ?_
        refine v_iald cx dX6_rank_80 5 rfl h (fun h => ?_)
        refine v_callVpi (As := [.int x2, .int (t_order (x3 - 1).toNatClampNeg)]) cx (c_X6_isAhead l g D cy q_t q_t_m q_t_saved q_t_text q_t_read q_t_counts q_t_scores q_t_isIn q_t_order q_t_row q_t_listing h) k_X6_170 (by decide) ⟨rfl, rfl⟩ (by decide) rfl rfl (Nat.le_of_ble_eq_true rfl) dX6_rank_81 [0, 3, 1, 2] [4, 5] (by decide) (vj_all 6 rfl (by decide +kernel)) rfl rfl rfl (q0 := 0) rfl rfl (fun r_2 h => ?_)
        refine v_if_eq (tgt := 107) cx dX6_rank_84 (by decide) h (fun h => ?_) (fun h => ?_)
        · refine v_lv (lv' := [(0, .ref q_t), (1, .int x1), (2, .int x2), (3, .int x3)]) [0, 1, 2, 3] rfl ?_
          exact hK107 _ _ h
        · refine v_aload_n cx dX6_rank_87 rfl 0 rfl ?_
          refine g_X6_32 cx dX6_rank_88 0 rfl rfl ?_
          refine v_iload_n cx dX6_rank_91 rfl 3 rfl ?_
          refine v_aload_n cx dX6_rank_92 rfl 0 rfl ?_
          refine g_X6_32 cx dX6_rank_93 0 rfl rfl ?_
          refine v_iload_n cx dX6_rank_96 rfl 3 rfl ?_
          refine v_iconst (v := 1) cx dX6_rank_97 (by decide) ?_
          refine v_isub cx dX6_rank_98 ?_
          refine v_iald cx dX6_rank_99 5 rfl h (fun h => ?_)
          refine v_iast (ws' := [(q_t, .inr (6, [.ref q_t_m, .ref q_t_saved, .int t_savedCount, .ref q_t_text, .int t_textLength, .int t_code, .int t_at, .ref q_t_read, .int t_number, .ref q_t_counts, .ref q_t_scores, .ref q_t_isIn, .ref q_t_order, .int t_ranked, .int t_emptySide, .ref q_t_row, .ref q_t_listing, .int t_listingLength, .long t_hash])), (q_t_m, .inl (cy 0, 378, .inl t_m)), (q_t_counts, .inl (cy 0, 96, .inl t_counts)), (q_t_scores, .inl (cy 0, 16, .inl t_scores)), (q_t_isIn, .inl (cy 3, 16, .inl t_isIn)), (q_t_order, .inl (cy 0, 16, .inl (upd t_order x3.toNatClampNeg (t_order (x3 - 1).toNatClampNeg))))]) cx dX6_rank_100 5 rfl h rfl (fun h => ?_)
          refine v_iinc (v := x3 + (-1)) (k0 := 3) (lv' := [(3, .int (x3 + (-1))), (0, .ref q_t), (1, .int x1), (2, .int x2)]) cx dX6_rank_101 rfl rfl (by decide) rfl ?_
          refine v_goto (tgt := 58) cx dX6_rank_104 (by decide) ?_
          refine v_lv (lv' := [(0, .ref q_t), (1, .int x1), (2, .int x2), (3, .int (x3 + (-1)))]) [1, 2, 3, 0] rfl ?_
          exact ih _ _ h
set_option maxHeartbeats 4000000 in
set_option maxRecDepth 100000 in
theorem w_X6_rank_7 {p : Program} {l : Launch} {e : Env} {s : State} {m : MethodId} {args : Array Value} {below : List Frame} {meth : Method} {c : Code} {Q9 : State → Prop} {mn : String} {Ts : List Cond} {D : va_G} {cy : Nat → ClassId} {g : gT} {A : Nat → Prop} (cx : vC p s m args meth c cX6_rank 4 none RX6 mn Ts D cy g A) (q_t q_t_m q_t_saved q_t_text q_t_read q_t_counts q_t_scores q_t_isIn q_t_order q_t_row q_t_listing : Nat) {x1 : Int32} {t_savedCount : Int32} {t_textLength : Int32} {t_code : Int32} {t_at : Int32} {t_number : Int32} {t_emptySide : Int32} {t_listingLength : Int32} {t_hash : Int64} {t_m : Nat → Int32} {t_counts : Nat → Int32} {N : Nat} {K139 : Int32 → Int32 → (Nat → Int32) → (Nat → Int32) → (Nat → Int32) → Prop} (hK139 : ∀ (x2 : Int32) (t_ranked : Int32) (t_scores : Nat → Int32) (t_isIn : Nat → Int32) (t_order : Nat → Int32), K139 x2 t_ranked t_scores t_isIn t_order → vV p l e rm_X6_rank s m args below meth c Q9 4 D A 0 0 [(q_t, .inr (6, [.ref q_t_m, .ref q_t_saved, .int t_savedCount, .ref q_t_text, .int t_textLength, .int t_code, .int t_at, .ref q_t_read, .int t_number, .ref q_t_counts, .ref q_t_scores, .ref q_t_isIn, .ref q_t_order, .int t_ranked, .int t_emptySide, .ref q_t_row, .ref q_t_listing, .int t_listingLength, .long t_hash])), (q_t_m, .inl (cy 0, 378, .inl t_m)), (q_t_counts, .inl (cy 0, 96, .inl t_counts)), (q_t_scores, .inl (cy 0, 16, .inl t_scores)), (q_t_isIn, .inl (cy 3, 16, .inl t_isIn)), (q_t_order, .inl (cy 0, 16, .inl t_order))] 139 [(0, .ref q_t), (1, .int x1), (2, .int x2)] []) : ∀ (n : Nat) (x2 : Int32) (t_ranked : Int32) (t_scores : Nat → Int32) (t_isIn : Nat → Int32) (t_order : Nat → Int32), p_X6_rank_7 N x1 t_savedCount t_textLength t_code t_at t_number t_emptySide t_listingLength t_hash t_m t_counts K139 n x2 t_ranked t_scores t_isIn t_order → vV p l e rm_X6_rank s m args below meth c Q9 4 D A 0 0 [(q_t, .inr (6, [.ref q_t_m, .ref q_t_saved, .int t_savedCount, .ref q_t_text, .int t_textLength, .int t_code, .int t_at, .ref q_t_read, .int t_number, .ref q_t_counts, .ref q_t_scores, .ref q_t_isIn, .ref q_t_order, .int t_ranked, .int t_emptySide, .ref q_t_row, .ref q_t_listing, .int t_listingLength, .long t_hash])), (q_t_m, .inl (cy 0, 378, .inl t_m)), (q_t_counts, .inl (cy 0, 96, .inl t_counts)), (q_t_scores, .inl (cy 0, 16, .inl t_scores)), (q_t_isIn, .inl (cy 3, 16, .inl t_isIn)), (q_t_order, .inl (cy 0, 16, .inl t_order))] 7 [(0, .ref q_t), (1, .int x1), (2, .int x2)] [] := by
  intro n
  induction n with
  | zero => intro x2 t_ranked t_scores t_isIn t_order h; exact False.elim h
  | succ n ih =>
    intro x2 t_ranked t_scores t_isIn t_order h
    unfold p_X6_rank_7 at h
    refine v_iload_n cx dX6_rank_7 rfl 2 rfl ?_
    refine v_aload_n cx dX6_rank_8 rfl 0 rfl ?_
    refine g_X6_7 cx dX6_rank_9 0 rfl rfl ?_
    refine v_iconst (v := 0) cx dX6_rank_12 (by decide) ?_
    refine v_iald cx dX6_rank_13 1 rfl ⟨by unfold vp_in; decide, h⟩ (fun h => ?_)
    refine v_icmp_ge (tgt := 139) cx dX6_rank_14 (by decide) h (fun h => ?_) (fun h => ?_)
    · refine v_lv (lv' := [(0, .ref q_t), (1, .int x1), (2, .int x2)]) [0, 1, 2] rfl ?_
      exact hK139 _ _ _ _ _ h
    · refine v_aload_n cx dX6_rank_17 rfl 0 rfl ?_
      refine g_X6_25 cx dX6_rank_18 0 rfl rfl ?_
      refine v_iload_n cx dX6_rank_21 rfl 2 rfl ?_
      refine v_aload_n cx dX6_rank_22 rfl 0 rfl ?_
      refine v_iload_n cx dX6_rank_23 rfl 2 rfl ?_
      refine v_callVpi (As := [.int x2]) cx (c_X6_score l g D cy q_t q_t_m q_t_saved q_t_text q_t_read q_t_counts q_t_scores q_t_isIn q_t_order q_t_row q_t_listing h) k_X6_167 (by decide) ⟨rfl, rfl⟩ (by decide) rfl rfl (Nat.le_of_ble_eq_true rfl) dX6_rank_24 [0, 1, 2] [3, 4, 5] (by decide) (vj_all 6 rfl (by decide +kernel)) rfl rfl rfl (q0 := 0) rfl rfl (fun r_1 h => ?_)
      refine v_iast (ws' := [(q_t, .inr (6, [.ref q_t_m, .ref q_t_saved, .int t_savedCount, .ref q_t_text, .int t_textLength, .int t_code, .int t_at, .ref q_t_read, .int t_number, .ref q_t_counts, .ref q_t_scores, .ref q_t_isIn, .ref q_t_order, .int t_ranked, .int t_emptySide, .ref q_t_row, .ref q_t_listing, .int t_listingLength, .long t_hash])), (q_t_m, .inl (cy 0, 378, .inl t_m)), (q_t_counts, .inl (cy 0, 96, .inl t_counts)), (q_t_scores, .inl (cy 0, 16, .inl (upd t_scores x2.toNatClampNeg r_1))), (q_t_isIn, .inl (cy 3, 16, .inl t_isIn)), (q_t_order, .inl (cy 0, 16, .inl t_order))]) cx dX6_rank_27 3 rfl h rfl (fun h => ?_)
      refine v_aload_n cx dX6_rank_28 rfl 0 rfl ?_
      refine g_X6_28 cx dX6_rank_29 0 rfl rfl ?_
      refine v_iload_n cx dX6_rank_32 rfl 2 rfl ?_
      refine v_aload_n cx dX6_rank_33 rfl 0 rfl ?_
      refine g_X6_25 cx dX6_rank_34 0 rfl rfl ?_
      refine v_iload_n cx dX6_rank_37 rfl 2 rfl ?_
      refine v_iald cx dX6_rank_38 3 rfl h (fun h => ?_)
      refine v_if_le (tgt := 51) cx dX6_rank_39 (by decide) h (fun h => ?_) (fun h => ?_)
      · refine v_iconst (v := 0) cx dX6_rank_51 (by decide) ?_
        refine v_zast (ws' := [(q_t, .inr (6, [.ref q_t_m, .ref q_t_saved, .int t_savedCount, .ref q_t_text, .int t_textLength, .int t_code, .int t_at, .ref q_t_read, .int t_number, .ref q_t_counts, .ref q_t_scores, .ref q_t_isIn, .ref q_t_order, .int t_ranked, .int t_emptySide, .ref q_t_row, .ref q_t_listing, .int t_listingLength, .long t_hash])), (q_t_m, .inl (cy 0, 378, .inl t_m)), (q_t_counts, .inl (cy 0, 96, .inl t_counts)), (q_t_scores, .inl (cy 0, 16, .inl (upd t_scores x2.toNatClampNeg r_1))), (q_t_isIn, .inl (cy 3, 16, .inl (upd t_isIn x2.toNatClampNeg (vp_nar .boolean 0)))), (q_t_order, .inl (cy 0, 16, .inl t_order))]) cx dX6_rank_52 4 rfl h rfl (fun h => ?_)
        refine v_aload_n cx dX6_rank_53 rfl 0 rfl ?_
        refine g_X6_164 cx dX6_rank_54 0 rfl rfl ?_
        refine v_istore_n (lv' := [(3, .int t_ranked), (0, .ref q_t), (1, .int x1), (2, .int x2)]) cx dX6_rank_57 rfl (by decide) rfl ?_
        refine v_lv (lv' := [(0, .ref q_t), (1, .int x1), (2, .int x2), (3, .int t_ranked)]) [1, 2, 3, 0] rfl ?_
        refine w_X6_rank_58 cx q_t q_t_m q_t_saved q_t_text q_t_read q_t_counts q_t_scores q_t_isIn q_t_order q_t_row q_t_listing ?_ N _ _ h
        · intro x3_3 t_order_4 h
          refine v_aload_n cx dX6_rank_107 rfl 0 rfl ?_
          refine g_X6_28 cx dX6_rank_108 0 rfl rfl ?_
          refine v_iload_n cx dX6_rank_111 rfl 2 rfl ?_
          refine v_zald cx dX6_rank_112 4 rfl h (fun h => ?_)
          refine v_if_eq (tgt := 133) cx dX6_rank_113 (by decide) h (fun h => ?_) (fun h => ?_)
          · refine v_iinc (v := x2 + 1) (k0 := 2) (lv' := [(2, .int (x2 + 1)), (0, .ref q_t), (1, .int x1), (3, .int x3_3)]) cx dX6_rank_133 rfl rfl (by decide) rfl ?_
            refine v_goto (tgt := 7) cx dX6_rank_136 (by decide) ?_
            refine v_lv (lv' := [(0, .ref q_t), (1, .int x1), (2, .int (x2 + 1))]) [1, 2, 0] rfl ?_
            exact ih _ _ _ _ _ h
          · refine v_aload_n cx dX6_rank_116 rfl 0 rfl ?_
            refine g_X6_32 cx dX6_rank_117 0 rfl rfl ?_
            refine v_iload_n cx dX6_rank_120 rfl 3 rfl ?_
            refine v_iload_n cx dX6_rank_121 rfl 2 rfl ?_
            refine v_iast (ws' := [(q_t, .inr (6, [.ref q_t_m, .ref q_t_saved, .int t_savedCount, .ref q_t_text, .int t_textLength, .int t_code, .int t_at, .ref q_t_read, .int t_number, .ref q_t_counts, .ref q_t_scores, .ref q_t_isIn, .ref q_t_order, .int t_ranked, .int t_emptySide, .ref q_t_row, .ref q_t_listing, .int t_listingLength, .long t_hash])), (q_t_m, .inl (cy 0, 378, .inl t_m)), (q_t_counts, .inl (cy 0, 96, .inl t_counts)), (q_t_scores, .inl (cy 0, 16, .inl (upd t_scores x2.toNatClampNeg r_1))), (q_t_isIn, .inl (cy 3, 16, .inl (upd t_isIn x2.toNatClampNeg (vp_nar .boolean 0)))), (q_t_order, .inl (cy 0, 16, .inl (upd t_order_4 x3_3.toNatClampNeg x2)))]) cx dX6_rank_122 5 rfl h rfl (fun h => ?_)
            refine v_aload_n cx dX6_rank_123 rfl 0 rfl ?_
            refine v_dup cx dX6_rank_124 rfl ?_
            refine g_X6_164 cx dX6_rank_125 0 rfl rfl ?_
            refine v_iconst (v := 1) cx dX6_rank_128 (by decide) ?_
            refine v_iadd cx dX6_rank_129 ?_
            refine p_X6_164 (ws' := [(q_t, .inr (6, [.ref q_t_m, .ref q_t_saved, .int t_savedCount, .ref q_t_text, .int t_textLength, .int t_code, .int t_at, .ref q_t_read, .int t_number, .ref q_t_counts, .ref q_t_scores, .ref q_t_isIn, .ref q_t_order, .int (t_ranked + 1), .int t_emptySide, .ref q_t_row, .ref q_t_listing, .int t_listingLength, .long t_hash])), (q_t_m, .inl (cy 0, 378, .inl t_m)), (q_t_counts, .inl (cy 0, 96, .inl t_counts)), (q_t_scores, .inl (cy 0, 16, .inl (upd t_scores x2.toNatClampNeg r_1))), (q_t_isIn, .inl (cy 3, 16, .inl (upd t_isIn x2.toNatClampNeg (vp_nar .boolean 0)))), (q_t_order, .inl (cy 0, 16, .inl (upd t_order_4 x3_3.toNatClampNeg x2)))]) cx dX6_rank_130 0 rfl rfl rfl (Nat.le_of_ble_eq_true rfl) rfl ?_
            refine v_iinc (v := x2 + 1) (k0 := 2) (lv' := [(2, .int (x2 + 1)), (0, .ref q_t), (1, .int x1), (3, .int x3_3)]) cx dX6_rank_133 rfl rfl (by decide) rfl ?_
            refine v_goto (tgt := 7) cx dX6_rank_136 (by decide) ?_
            refine v_lv (lv' := [(0, .ref q_t), (1, .int x1), (2, .int (x2 + 1))]) [1, 2, 0] rfl ?_
            exact ih _ _ _ _ _ h
      · refine v_iload_n cx dX6_rank_42 rfl 2 rfl ?_
        refine v_iload_n cx dX6_rank_43 rfl 1 rfl ?_
        refine v_icmp_eq (tgt := 51) cx dX6_rank_44 (by decide) h (fun h => ?_) (fun h => ?_)
        · refine v_iconst (v := 0) cx dX6_rank_51 (by decide) ?_
          refine v_zast (ws' := [(q_t, .inr (6, [.ref q_t_m, .ref q_t_saved, .int t_savedCount, .ref q_t_text, .int t_textLength, .int t_code, .int t_at, .ref q_t_read, .int t_number, .ref q_t_counts, .ref q_t_scores, .ref q_t_isIn, .ref q_t_order, .int t_ranked, .int t_emptySide, .ref q_t_row, .ref q_t_listing, .int t_listingLength, .long t_hash])), (q_t_m, .inl (cy 0, 378, .inl t_m)), (q_t_counts, .inl (cy 0, 96, .inl t_counts)), (q_t_scores, .inl (cy 0, 16, .inl (upd t_scores x2.toNatClampNeg r_1))), (q_t_isIn, .inl (cy 3, 16, .inl (upd t_isIn x2.toNatClampNeg (vp_nar .boolean 0)))), (q_t_order, .inl (cy 0, 16, .inl t_order))]) cx dX6_rank_52 4 rfl h rfl (fun h => ?_)
          refine v_aload_n cx dX6_rank_53 rfl 0 rfl ?_
          refine g_X6_164 cx dX6_rank_54 0 rfl rfl ?_
          refine v_istore_n (lv' := [(3, .int t_ranked), (0, .ref q_t), (1, .int x1), (2, .int x2)]) cx dX6_rank_57 rfl (by decide) rfl ?_
          refine v_lv (lv' := [(0, .ref q_t), (1, .int x1), (2, .int x2), (3, .int t_ranked)]) [1, 2, 3, 0] rfl ?_
          refine w_X6_rank_58 cx q_t q_t_m q_t_saved q_t_text q_t_read q_t_counts q_t_scores q_t_isIn q_t_order q_t_row q_t_listing ?_ N _ _ h
          · intro x3_5 t_order_6 h
            refine v_aload_n cx dX6_rank_107 rfl 0 rfl ?_
            refine g_X6_28 cx dX6_rank_108 0 rfl rfl ?_
            refine v_iload_n cx dX6_rank_111 rfl 2 rfl ?_
            refine v_zald cx dX6_rank_112 4 rfl h (fun h => ?_)
            refine v_if_eq (tgt := 133) cx dX6_rank_113 (by decide) h (fun h => ?_) (fun h => ?_)
            · refine v_iinc (v := x2 + 1) (k0 := 2) (lv' := [(2, .int (x2 + 1)), (0, .ref q_t), (1, .int x1), (3, .int x3_5)]) cx dX6_rank_133 rfl rfl (by decide) rfl ?_
              refine v_goto (tgt := 7) cx dX6_rank_136 (by decide) ?_
              refine v_lv (lv' := [(0, .ref q_t), (1, .int x1), (2, .int (x2 + 1))]) [1, 2, 0] rfl ?_
              exact ih _ _ _ _ _ h
            · refine v_aload_n cx dX6_rank_116 rfl 0 rfl ?_
              refine g_X6_32 cx dX6_rank_117 0 rfl rfl ?_
              refine v_iload_n cx dX6_rank_120 rfl 3 rfl ?_
              refine v_iload_n cx dX6_rank_121 rfl 2 rfl ?_
              refine v_iast (ws' := [(q_t, .inr (6, [.ref q_t_m, .ref q_t_saved, .int t_savedCount, .ref q_t_text, .int t_textLength, .int t_code, .int t_at, .ref q_t_read, .int t_number, .ref q_t_counts, .ref q_t_scores, .ref q_t_isIn, .ref q_t_order, .int t_ranked, .int t_emptySide, .ref q_t_row, .ref q_t_listing, .int t_listingLength, .long t_hash])), (q_t_m, .inl (cy 0, 378, .inl t_m)), (q_t_counts, .inl (cy 0, 96, .inl t_counts)), (q_t_scores, .inl (cy 0, 16, .inl (upd t_scores x2.toNatClampNeg r_1))), (q_t_isIn, .inl (cy 3, 16, .inl (upd t_isIn x2.toNatClampNeg (vp_nar .boolean 0)))), (q_t_order, .inl (cy 0, 16, .inl (upd t_order_6 x3_5.toNatClampNeg x2)))]) cx dX6_rank_122 5 rfl h rfl (fun h => ?_)
              refine v_aload_n cx dX6_rank_123 rfl 0 rfl ?_
              refine v_dup cx dX6_rank_124 rfl ?_
              refine g_X6_164 cx dX6_rank_125 0 rfl rfl ?_
              refine v_iconst (v := 1) cx dX6_rank_128 (by decide) ?_
              refine v_iadd cx dX6_rank_129 ?_
              refine p_X6_164 (ws' := [(q_t, .inr (6, [.ref q_t_m, .ref q_t_saved, .int t_savedCount, .ref q_t_text, .int t_textLength, .int t_code, .int t_at, .ref q_t_read, .int t_number, .ref q_t_counts, .ref q_t_scores, .ref q_t_isIn, .ref q_t_order, .int (t_ranked + 1), .int t_emptySide, .ref q_t_row, .ref q_t_listing, .int t_listingLength, .long t_hash])), (q_t_m, .inl (cy 0, 378, .inl t_m)), (q_t_counts, .inl (cy 0, 96, .inl t_counts)), (q_t_scores, .inl (cy 0, 16, .inl (upd t_scores x2.toNatClampNeg r_1))), (q_t_isIn, .inl (cy 3, 16, .inl (upd t_isIn x2.toNatClampNeg (vp_nar .boolean 0)))), (q_t_order, .inl (cy 0, 16, .inl (upd t_order_6 x3_5.toNatClampNeg x2)))]) cx dX6_rank_130 0 rfl rfl rfl (Nat.le_of_ble_eq_true rfl) rfl ?_
              refine v_iinc (v := x2 + 1) (k0 := 2) (lv' := [(2, .int (x2 + 1)), (0, .ref q_t), (1, .int x1), (3, .int x3_5)]) cx dX6_rank_133 rfl rfl (by decide) rfl ?_
              refine v_goto (tgt := 7) cx dX6_rank_136 (by decide) ?_
              refine v_lv (lv' := [(0, .ref q_t), (1, .int x1), (2, .int (x2 + 1))]) [1, 2, 0] rfl ?_
              exact ih _ _ _ _ _ h
        · refine v_iconst (v := 1) cx dX6_rank_47 (by decide) ?_
          refine v_goto (tgt := 52) cx dX6_rank_48 (by decide) ?_
          refine v_zast (ws' := [(q_t, .inr (6, [.ref q_t_m, .ref q_t_saved, .int t_savedCount, .ref q_t_text, .int t_textLength, .int t_code, .int t_at, .ref q_t_read, .int t_number, .ref q_t_counts, .ref q_t_scores, .ref q_t_isIn, .ref q_t_order, .int t_ranked, .int t_emptySide, .ref q_t_row, .ref q_t_listing, .int t_listingLength, .long t_hash])), (q_t_m, .inl (cy 0, 378, .inl t_m)), (q_t_counts, .inl (cy 0, 96, .inl t_counts)), (q_t_scores, .inl (cy 0, 16, .inl (upd t_scores x2.toNatClampNeg r_1))), (q_t_isIn, .inl (cy 3, 16, .inl (upd t_isIn x2.toNatClampNeg (vp_nar .boolean 1)))), (q_t_order, .inl (cy 0, 16, .inl t_order))]) cx dX6_rank_52 4 rfl h rfl (fun h => ?_)
          refine v_aload_n cx dX6_rank_53 rfl 0 rfl ?_
          refine g_X6_164 cx dX6_rank_54 0 rfl rfl ?_
          refine v_istore_n (lv' := [(3, .int t_ranked), (0, .ref q_t), (1, .int x1), (2, .int x2)]) cx dX6_rank_57 rfl (by decide) rfl ?_
          refine v_lv (lv' := [(0, .ref q_t), (1, .int x1), (2, .int x2), (3, .int t_ranked)]) [1, 2, 3, 0] rfl ?_
          refine w_X6_rank_58 cx q_t q_t_m q_t_saved q_t_text q_t_read q_t_counts q_t_scores q_t_isIn q_t_order q_t_row q_t_listing ?_ N _ _ h
          · intro x3_7 t_order_8 h
            refine v_aload_n cx dX6_rank_107 rfl 0 rfl ?_
            refine g_X6_28 cx dX6_rank_108 0 rfl rfl ?_
            refine v_iload_n cx dX6_rank_111 rfl 2 rfl ?_
            refine v_zald cx dX6_rank_112 4 rfl h (fun h => ?_)
            refine v_if_eq (tgt := 133) cx dX6_rank_113 (by decide) h (fun h => ?_) (fun h => ?_)
            · refine v_iinc (v := x2 + 1) (k0 := 2) (lv' := [(2, .int (x2 + 1)), (0, .ref q_t), (1, .int x1), (3, .int x3_7)]) cx dX6_rank_133 rfl rfl (by decide) rfl ?_
              refine v_goto (tgt := 7) cx dX6_rank_136 (by decide) ?_
              refine v_lv (lv' := [(0, .ref q_t), (1, .int x1), (2, .int (x2 + 1))]) [1, 2, 0] rfl ?_
              exact ih _ _ _ _ _ h
            · refine v_aload_n cx dX6_rank_116 rfl 0 rfl ?_
              refine g_X6_32 cx dX6_rank_117 0 rfl rfl ?_
              refine v_iload_n cx dX6_rank_120 rfl 3 rfl ?_
              refine v_iload_n cx dX6_rank_121 rfl 2 rfl ?_
              refine v_iast (ws' := [(q_t, .inr (6, [.ref q_t_m, .ref q_t_saved, .int t_savedCount, .ref q_t_text, .int t_textLength, .int t_code, .int t_at, .ref q_t_read, .int t_number, .ref q_t_counts, .ref q_t_scores, .ref q_t_isIn, .ref q_t_order, .int t_ranked, .int t_emptySide, .ref q_t_row, .ref q_t_listing, .int t_listingLength, .long t_hash])), (q_t_m, .inl (cy 0, 378, .inl t_m)), (q_t_counts, .inl (cy 0, 96, .inl t_counts)), (q_t_scores, .inl (cy 0, 16, .inl (upd t_scores x2.toNatClampNeg r_1))), (q_t_isIn, .inl (cy 3, 16, .inl (upd t_isIn x2.toNatClampNeg (vp_nar .boolean 1)))), (q_t_order, .inl (cy 0, 16, .inl (upd t_order_8 x3_7.toNatClampNeg x2)))]) cx dX6_rank_122 5 rfl h rfl (fun h => ?_)
              refine v_aload_n cx dX6_rank_123 rfl 0 rfl ?_
              refine v_dup cx dX6_rank_124 rfl ?_
              refine g_X6_164 cx dX6_rank_125 0 rfl rfl ?_
              refine v_iconst (v := 1) cx dX6_rank_128 (by decide) ?_
              refine v_iadd cx dX6_rank_129 ?_
              refine p_X6_164 (ws' := [(q_t, .inr (6, [.ref q_t_m, .ref q_t_saved, .int t_savedCount, .ref q_t_text, .int t_textLength, .int t_code, .int t_at, .ref q_t_read, .int t_number, .ref q_t_counts, .ref q_t_scores, .ref q_t_isIn, .ref q_t_order, .int (t_ranked + 1), .int t_emptySide, .ref q_t_row, .ref q_t_listing, .int t_listingLength, .long t_hash])), (q_t_m, .inl (cy 0, 378, .inl t_m)), (q_t_counts, .inl (cy 0, 96, .inl t_counts)), (q_t_scores, .inl (cy 0, 16, .inl (upd t_scores x2.toNatClampNeg r_1))), (q_t_isIn, .inl (cy 3, 16, .inl (upd t_isIn x2.toNatClampNeg (vp_nar .boolean 1)))), (q_t_order, .inl (cy 0, 16, .inl (upd t_order_8 x3_7.toNatClampNeg x2)))]) cx dX6_rank_130 0 rfl rfl rfl (Nat.le_of_ble_eq_true rfl) rfl ?_
              refine v_iinc (v := x2 + 1) (k0 := 2) (lv' := [(2, .int (x2 + 1)), (0, .ref q_t), (1, .int x1), (3, .int x3_7)]) cx dX6_rank_133 rfl rfl (by decide) rfl ?_
              refine v_goto (tgt := 7) cx dX6_rank_136 (by decide) ?_
              refine v_lv (lv' := [(0, .ref q_t), (1, .int x1), (2, .int (x2 + 1))]) [1, 2, 0] rfl ?_
              exact ih _ _ _ _ _ h
set_option maxHeartbeats 4000000 in
set_option maxRecDepth 100000 in
theorem c_X6_rank (l : Launch) (g : gT) (D : va_G) (cy : Nat → ClassId) (q_t q_t_m q_t_saved q_t_text q_t_read q_t_counts q_t_scores q_t_isIn q_t_order q_t_row q_t_listing : Nat) {t_savedCount : Int32} {t_textLength : Int32} {t_code : Int32} {t_at : Int32} {t_number : Int32} {t_ranked : Int32} {t_emptySide : Int32} {t_listingLength : Int32} {t_hash : Int64} {t_m : Nat → Int32} {t_counts : Nat → Int32} {t_scores : Nat → Int32} {t_isIn : Nat → Int32} {t_order : Nat → Int32} {x1 : Int32} {N : Nat} {Q : Int32 → (Nat → Int32) → (Nat → Int32) → (Nat → Int32) → Prop} (h : p_X6_rank N t_savedCount t_textLength t_code t_at t_number t_ranked t_emptySide t_listingLength t_hash t_m t_counts t_scores t_isIn t_order x1 Q) : UC l yX6_rank cX6_rank 4 none rm_X6_rank g D cy [.ref q_t, .int x1] [(q_t, .inr (6, [.ref q_t_m, .ref q_t_saved, .int t_savedCount, .ref q_t_text, .int t_textLength, .int t_code, .int t_at, .ref q_t_read, .int t_number, .ref q_t_counts, .ref q_t_scores, .ref q_t_isIn, .ref q_t_order, .int t_ranked, .int t_emptySide, .ref q_t_row, .ref q_t_listing, .int t_listingLength, .long t_hash])), (q_t_m, .inl (cy 0, 378, .inl t_m)), (q_t_counts, .inl (cy 0, 96, .inl t_counts)), (q_t_scores, .inl (cy 0, 16, .inl t_scores)), (q_t_isIn, .inl (cy 3, 16, .inl t_isIn)), (q_t_order, .inl (cy 0, 16, .inl t_order))] (fun v w => ∃ (t_ranked' : Int32) (t_scores' : Nat → Int32) (t_isIn' : Nat → Int32) (t_order' : Nat → Int32), v = none ∧ w = [(q_t, .inr (6, [.ref q_t_m, .ref q_t_saved, .int t_savedCount, .ref q_t_text, .int t_textLength, .int t_code, .int t_at, .ref q_t_read, .int t_number, .ref q_t_counts, .ref q_t_scores, .ref q_t_isIn, .ref q_t_order, .int t_ranked', .int t_emptySide, .ref q_t_row, .ref q_t_listing, .int t_listingLength, .long t_hash])), (q_t_m, .inl (cy 0, 378, .inl t_m)), (q_t_counts, .inl (cy 0, 96, .inl t_counts)), (q_t_scores, .inl (cy 0, 16, .inl t_scores')), (q_t_isIn, .inl (cy 3, 16, .inl t_isIn')), (q_t_order, .inl (cy 0, 16, .inl t_order'))] ∧ Q t_ranked' t_scores' t_isIn' t_order') := by
  refine UC_of (by decide +kernel) (Nat.le_of_ble_eq_true rfl) [(0, .ref q_t), (1, .int x1)] rfl (fun p e s m args below meth c A cx => ?_)
  unfold p_X6_rank at h
  refine v_aload_n cx dX6_rank_0 rfl 0 rfl ?_
  refine v_iconst (v := 0) cx dX6_rank_1 (by decide) ?_
  refine p_X6_164 (ws' := [(q_t, .inr (6, [.ref q_t_m, .ref q_t_saved, .int t_savedCount, .ref q_t_text, .int t_textLength, .int t_code, .int t_at, .ref q_t_read, .int t_number, .ref q_t_counts, .ref q_t_scores, .ref q_t_isIn, .ref q_t_order, .int 0, .int t_emptySide, .ref q_t_row, .ref q_t_listing, .int t_listingLength, .long t_hash])), (q_t_m, .inl (cy 0, 378, .inl t_m)), (q_t_counts, .inl (cy 0, 96, .inl t_counts)), (q_t_scores, .inl (cy 0, 16, .inl t_scores)), (q_t_isIn, .inl (cy 3, 16, .inl t_isIn)), (q_t_order, .inl (cy 0, 16, .inl t_order))]) cx dX6_rank_2 0 rfl rfl rfl (Nat.le_of_ble_eq_true rfl) rfl ?_
  refine v_iconst (v := 0) cx dX6_rank_5 (by decide) ?_
  refine v_istore_n (lv' := [(2, .int 0), (0, .ref q_t), (1, .int x1)]) cx dX6_rank_6 rfl (by decide) rfl ?_
  refine v_lv (lv' := [(0, .ref q_t), (1, .int x1), (2, .int 0)]) [1, 2, 0] rfl ?_
  refine w_X6_rank_7 cx q_t q_t_m q_t_saved q_t_text q_t_read q_t_counts q_t_scores q_t_isIn q_t_order q_t_row q_t_listing ?_ N _ _ _ _ _ h
  · intro x2_9 t_ranked_10 t_scores_11 t_isIn_12 t_order_13 h
    exact v_return cx dX6_rank_139 ⟨_, _, _, _, rfl, rfl, h⟩
abbrev rm_X6_served : Room := { frames := 0, cells := 0, slots := 0, locals := 0 }
set_option maxHeartbeats 4000000 in
set_option maxRecDepth 100000 in
theorem c_X6_served (l : Launch) (g : gT) (D : va_G) (cy : Nat → ClassId) (q_t q_t_m q_t_saved q_t_text q_t_read q_t_counts q_t_scores q_t_isIn q_t_order q_t_row q_t_listing : Nat) {t_savedCount : Int32} {t_textLength : Int32} {t_code : Int32} {t_at : Int32} {t_number : Int32} {t_ranked : Int32} {t_emptySide : Int32} {t_listingLength : Int32} {t_hash : Int64} {t_order : Nat → Int32} {N : Nat} {Q : Int32 → Prop} (h : p_X6_served N t_savedCount t_textLength t_code t_at t_number t_ranked t_emptySide t_listingLength t_hash t_order Q) : UC l yX6_served cX6_served 1 (some .int) rm_X6_served g D cy [.ref q_t] [(q_t, .inr (6, [.ref q_t_m, .ref q_t_saved, .int t_savedCount, .ref q_t_text, .int t_textLength, .int t_code, .int t_at, .ref q_t_read, .int t_number, .ref q_t_counts, .ref q_t_scores, .ref q_t_isIn, .ref q_t_order, .int t_ranked, .int t_emptySide, .ref q_t_row, .ref q_t_listing, .int t_listingLength, .long t_hash])), (q_t_order, .inl (cy 0, 16, .inl t_order))] (fun v w => w = [(q_t, .inr (6, [.ref q_t_m, .ref q_t_saved, .int t_savedCount, .ref q_t_text, .int t_textLength, .int t_code, .int t_at, .ref q_t_read, .int t_number, .ref q_t_counts, .ref q_t_scores, .ref q_t_isIn, .ref q_t_order, .int t_ranked, .int t_emptySide, .ref q_t_row, .ref q_t_listing, .int t_listingLength, .long t_hash])), (q_t_order, .inl (cy 0, 16, .inl t_order))] ∧ ∃ r : Int32, v = some (.int r) ∧ Q r) := by
  refine UC_of (by decide +kernel) (Nat.le_of_ble_eq_true rfl) [(0, .ref q_t)] rfl (fun p e s m args below meth c A cx => ?_)
  unfold p_X6_served at h
  refine v_aload_n cx dX6_served_0 rfl 0 rfl ?_
  refine g_X6_164 cx dX6_served_1 0 rfl rfl ?_
  refine v_if_ne (tgt := 11) cx dX6_served_4 (by decide) h (fun h => ?_) (fun h => ?_)
  · refine v_aload_n cx dX6_served_11 rfl 0 rfl ?_
    refine g_X6_32 cx dX6_served_12 0 rfl rfl ?_
    refine v_iconst (v := 0) cx dX6_served_15 (by decide) ?_
    refine v_iald cx dX6_served_16 1 rfl ⟨by unfold vp_in; decide, h⟩ (fun h => ?_)
    exact v_ireturn cx rfl dX6_served_17 ⟨rfl, _, rfl, h⟩
  · refine v_iconst (v := (-1)) cx dX6_served_7 (by decide) ?_
    refine v_goto (tgt := 17) cx dX6_served_8 (by decide) ?_
    exact v_ireturn cx rfl dX6_served_17 ⟨rfl, _, rfl, h⟩
abbrev rm_X6_survey : Room := { frames := 5, cells := 0, slots := 0, locals := 114 }
set_option maxHeartbeats 4000000 in
set_option maxRecDepth 100000 in
theorem c_X6_survey (l : Launch) (g : gT) (D : va_G) (cy : Nat → ClassId) (q_t q_t_m q_t_saved q_t_text q_t_read q_t_counts q_t_scores q_t_isIn q_t_order q_t_row q_t_listing : Nat) {t_savedCount : Int32} {t_textLength : Int32} {t_code : Int32} {t_at : Int32} {t_number : Int32} {t_ranked : Int32} {t_emptySide : Int32} {t_listingLength : Int32} {t_hash : Int64} {t_m : Nat → Int32} {t_counts : Nat → Int32} {t_scores : Nat → Int32} {t_isIn : Nat → Int32} {t_order : Nat → Int32} {N : Nat} {Q : Int32 → (Nat → Int32) → (Nat → Int32) → (Nat → Int32) → (Nat → Int32) → Prop} (h : p_X6_survey N t_savedCount t_textLength t_code t_at t_number t_ranked t_emptySide t_listingLength t_hash t_m t_counts t_scores t_isIn t_order Q) : UC l yX6_survey cX6_survey 1 none rm_X6_survey g D cy [.ref q_t] [(q_t, .inr (6, [.ref q_t_m, .ref q_t_saved, .int t_savedCount, .ref q_t_text, .int t_textLength, .int t_code, .int t_at, .ref q_t_read, .int t_number, .ref q_t_counts, .ref q_t_scores, .ref q_t_isIn, .ref q_t_order, .int t_ranked, .int t_emptySide, .ref q_t_row, .ref q_t_listing, .int t_listingLength, .long t_hash])), (q_t_m, .inl (cy 0, 378, .inl t_m)), (q_t_counts, .inl (cy 0, 96, .inl t_counts)), (q_t_scores, .inl (cy 0, 16, .inl t_scores)), (q_t_isIn, .inl (cy 3, 16, .inl t_isIn)), (q_t_order, .inl (cy 0, 16, .inl t_order))] (fun v w => ∃ (t_ranked' : Int32) (t_counts' : Nat → Int32) (t_scores' : Nat → Int32) (t_isIn' : Nat → Int32) (t_order' : Nat → Int32), v = none ∧ w = [(q_t, .inr (6, [.ref q_t_m, .ref q_t_saved, .int t_savedCount, .ref q_t_text, .int t_textLength, .int t_code, .int t_at, .ref q_t_read, .int t_number, .ref q_t_counts, .ref q_t_scores, .ref q_t_isIn, .ref q_t_order, .int t_ranked', .int t_emptySide, .ref q_t_row, .ref q_t_listing, .int t_listingLength, .long t_hash])), (q_t_m, .inl (cy 0, 378, .inl t_m)), (q_t_counts, .inl (cy 0, 96, .inl t_counts')), (q_t_scores, .inl (cy 0, 16, .inl t_scores')), (q_t_isIn, .inl (cy 3, 16, .inl t_isIn')), (q_t_order, .inl (cy 0, 16, .inl t_order'))] ∧ Q t_ranked' t_counts' t_scores' t_isIn' t_order') := by
  refine UC_of (by decide +kernel) (Nat.le_of_ble_eq_true rfl) [(0, .ref q_t)] rfl (fun p e s m args below meth c A cx => ?_)
  unfold p_X6_survey at h
  refine v_aload_n cx dX6_survey_0 rfl 0 rfl ?_
  refine v_callV (As := []) cx (c_X6_count l g D cy q_t q_t_m q_t_saved q_t_text q_t_read q_t_counts q_t_scores q_t_isIn q_t_order q_t_row q_t_listing h) k_X6_173 (by decide) (by decide) rfl rfl (Nat.le_of_ble_eq_true rfl) dX6_survey_1 [0, 1, 2] [3, 4, 5] (by decide) rfl rfl rfl (q0 := 0) rfl rfl (fun v9 w9 hp => ?_)
  obtain ⟨u_1, rfl, rfl, h⟩ := hp
  refine v_afterJ (ws' := [(q_t, .inr (6, [.ref q_t_m, .ref q_t_saved, .int t_savedCount, .ref q_t_text, .int t_textLength, .int t_code, .int t_at, .ref q_t_read, .int t_number, .ref q_t_counts, .ref q_t_scores, .ref q_t_isIn, .ref q_t_order, .int t_ranked, .int t_emptySide, .ref q_t_row, .ref q_t_listing, .int t_listingLength, .long t_hash])), (q_t_m, .inl (cy 0, 378, .inl t_m)), (q_t_counts, .inl (cy 0, 96, .inl u_1)), (q_t_scores, .inl (cy 0, 16, .inl t_scores)), (q_t_isIn, .inl (cy 3, 16, .inl t_isIn)), (q_t_order, .inl (cy 0, 16, .inl t_order))]) (st' := []) (ce := 0) (sl := 0) 6 [6, 7, 8, 3, 4, 5] (by decide +kernel) (by decide +kernel) rfl rfl ⟨rfl, rfl⟩ ?_
  refine v_aload_n cx dX6_survey_4 rfl 0 rfl ?_
  refine v_iconst (v := (-1)) cx dX6_survey_5 (by decide) ?_
  refine v_callV (As := [.int (-1)]) cx (c_X6_rank l g D cy q_t q_t_m q_t_saved q_t_text q_t_read q_t_counts q_t_scores q_t_isIn q_t_order q_t_row q_t_listing h) k_X6_176 (by decide) (by decide) rfl rfl (Nat.le_of_ble_eq_true rfl) dX6_survey_6 [0, 1, 2, 3, 4, 5] [] (by decide) rfl rfl rfl (q0 := 0) rfl rfl (fun v9 w9 hp => ?_)
  refine Exists.elim hp fun u_2 hp => Exists.elim hp fun u_3 hp => Exists.elim hp fun u_4 hp => Exists.elim hp fun u_5 hp => ?_
  obtain ⟨rfl, rfl, h⟩ := hp
  refine v_afterJ (ws' := [(q_t, .inr (6, [.ref q_t_m, .ref q_t_saved, .int t_savedCount, .ref q_t_text, .int t_textLength, .int t_code, .int t_at, .ref q_t_read, .int t_number, .ref q_t_counts, .ref q_t_scores, .ref q_t_isIn, .ref q_t_order, .int u_2, .int t_emptySide, .ref q_t_row, .ref q_t_listing, .int t_listingLength, .long t_hash])), (q_t_m, .inl (cy 0, 378, .inl t_m)), (q_t_counts, .inl (cy 0, 96, .inl u_1)), (q_t_scores, .inl (cy 0, 16, .inl u_3)), (q_t_isIn, .inl (cy 3, 16, .inl u_4)), (q_t_order, .inl (cy 0, 16, .inl u_5))]) (st' := []) (ce := 0) (sl := 0) 6 [6, 7, 8, 9, 10, 11] (by decide +kernel) (by decide +kernel) rfl rfl ⟨rfl, rfl⟩ ?_
  exact v_return cx dX6_survey_9 ⟨_, _, _, _, _, rfl, rfl, h⟩
abbrev rm_X6_isBefore : Room := { frames := 1, cells := 0, slots := 0, locals := 22 }
set_option maxHeartbeats 4000000 in
set_option maxRecDepth 100000 in
theorem w_X6_isBefore_2 {p : Program} {l : Launch} {e : Env} {s : State} {m : MethodId} {args : Array Value} {below : List Frame} {meth : Method} {c : Code} {Q9 : State → Prop} {mn : String} {Ts : List Cond} {D : va_G} {cy : Nat → ClassId} {g : gT} {A : Nat → Prop} (cx : vC p s m args meth c cX6_isBefore 4 (some .boolean) RX6 mn Ts D cy g A) (q_t q_t_m q_t_saved q_t_text q_t_read q_t_counts q_t_scores q_t_isIn q_t_order q_t_row q_t_listing : Nat) {x1 : Int32} {x2 : Int32} {t_savedCount : Int32} {t_textLength : Int32} {t_code : Int32} {t_at : Int32} {t_number : Int32} {t_ranked : Int32} {t_emptySide : Int32} {t_listingLength : Int32} {t_hash : Int64} {t_m : Nat → Int32} {N : Nat} {K28 : Int32 → Prop} (hK28 : ∀ (x3 : Int32), K28 x3 → vV p l e rm_X6_isBefore s m args below meth c Q9 4 D A 0 0 [(q_t, .inr (6, [.ref q_t_m, .ref q_t_saved, .int t_savedCount, .ref q_t_text, .int t_textLength, .int t_code, .int t_at, .ref q_t_read, .int t_number, .ref q_t_counts, .ref q_t_scores, .ref q_t_isIn, .ref q_t_order, .int t_ranked, .int t_emptySide, .ref q_t_row, .ref q_t_listing, .int t_listingLength, .long t_hash])), (q_t_m, .inl (cy 0, 378, .inl t_m))] 28 [(0, .ref q_t), (1, .int x1), (2, .int x2), (3, .int x3)] []) : ∀ (n : Nat) (x3 : Int32), p_X6_isBefore_2 N x1 x2 t_savedCount t_textLength t_code t_at t_number t_ranked t_emptySide t_listingLength t_hash t_m K28 n x3 → vV p l e rm_X6_isBefore s m args below meth c Q9 4 D A 0 0 [(q_t, .inr (6, [.ref q_t_m, .ref q_t_saved, .int t_savedCount, .ref q_t_text, .int t_textLength, .int t_code, .int t_at, .ref q_t_read, .int t_number, .ref q_t_counts, .ref q_t_scores, .ref q_t_isIn, .ref q_t_order, .int t_ranked, .int t_emptySide, .ref q_t_row, .ref q_t_listing, .int t_listingLength, .long t_hash])), (q_t_m, .inl (cy 0, 378, .inl t_m))] 2 [(0, .ref q_t), (1, .int x1), (2, .int x2), (3, .int x3)] [] := by
  intro n
  induction n with
  | zero => intro x3 h; exact False.elim h
  | succ n ih =>
    intro x3 h
    unfold p_X6_isBefore_2 at h
    refine v_iload_n cx dX6_isBefore_2 rfl 3 rfl ?_
    refine v_iconst (v := 5) cx dX6_isBefore_3 (by decide) ?_
    refine v_icmp_ge (tgt := 28) cx dX6_isBefore_4 (by decide) h (fun h => ?_) (fun h => ?_)
    · refine v_lv (lv' := [(0, .ref q_t), (1, .int x1), (2, .int x2), (3, .int x3)]) [0, 1, 2, 3] rfl ?_
      exact hK28 _ h
    · refine v_aload_n cx dX6_isBefore_7 rfl 0 rfl ?_
      refine v_iload_n cx dX6_isBefore_8 rfl 1 rfl ?_
      refine v_iload_n cx dX6_isBefore_9 rfl 3 rfl ?_
      refine v_callVpi (As := [.int x1, .int x3]) cx (c_X6_of l g D cy q_t q_t_m q_t_saved q_t_text q_t_read q_t_counts q_t_scores q_t_isIn q_t_order q_t_row q_t_listing h) k_X6_118 (by decide) ⟨rfl, rfl⟩ (by decide) rfl rfl (Nat.le_of_ble_eq_true rfl) dX6_isBefore_10 [0, 1] [] (by decide) (vj_all 2 rfl (by decide +kernel)) rfl rfl rfl (q0 := 0) rfl rfl (fun r_1 h => ?_)
      refine v_aload_n cx dX6_isBefore_13 rfl 0 rfl ?_
      refine v_iload_n cx dX6_isBefore_14 rfl 2 rfl ?_
      refine v_iload_n cx dX6_isBefore_15 rfl 3 rfl ?_
      refine v_callVpi (As := [.int x2, .int x3]) cx (c_X6_of l g D cy q_t q_t_m q_t_saved q_t_text q_t_read q_t_counts q_t_scores q_t_isIn q_t_order q_t_row q_t_listing h) k_X6_118 (by decide) ⟨rfl, rfl⟩ (by decide) rfl rfl (Nat.le_of_ble_eq_true rfl) dX6_isBefore_16 [0, 1] [] (by decide) (vj_all 2 rfl (by decide +kernel)) rfl rfl rfl (q0 := 0) rfl rfl (fun r_2 h => ?_)
      refine v_icmp_ne (tgt := 28) cx dX6_isBefore_19 (by decide) h (fun h => ?_) (fun h => ?_)
      · refine v_lv (lv' := [(0, .ref q_t), (1, .int x1), (2, .int x2), (3, .int x3)]) [0, 1, 2, 3] rfl ?_
        exact hK28 _ h
      · refine v_iinc (v := x3 + 1) (k0 := 3) (lv' := [(3, .int (x3 + 1)), (0, .ref q_t), (1, .int x1), (2, .int x2)]) cx dX6_isBefore_22 rfl rfl (by decide) rfl ?_
        refine v_goto (tgt := 2) cx dX6_isBefore_25 (by decide) ?_
        refine v_lv (lv' := [(0, .ref q_t), (1, .int x1), (2, .int x2), (3, .int (x3 + 1))]) [1, 2, 3, 0] rfl ?_
        exact ih _ h
set_option maxHeartbeats 4000000 in
set_option maxRecDepth 100000 in
theorem c_X6_isBefore (l : Launch) (g : gT) (D : va_G) (cy : Nat → ClassId) (q_t q_t_m q_t_saved q_t_text q_t_read q_t_counts q_t_scores q_t_isIn q_t_order q_t_row q_t_listing : Nat) {t_savedCount : Int32} {t_textLength : Int32} {t_code : Int32} {t_at : Int32} {t_number : Int32} {t_ranked : Int32} {t_emptySide : Int32} {t_listingLength : Int32} {t_hash : Int64} {t_m : Nat → Int32} {x1 : Int32} {x2 : Int32} {N : Nat} {Q : Int32 → Prop} (h : p_X6_isBefore N t_savedCount t_textLength t_code t_at t_number t_ranked t_emptySide t_listingLength t_hash t_m x1 x2 Q) : UC l yX6_isBefore cX6_isBefore 4 (some .boolean) rm_X6_isBefore g D cy [.ref q_t, .int x1, .int x2] [(q_t, .inr (6, [.ref q_t_m, .ref q_t_saved, .int t_savedCount, .ref q_t_text, .int t_textLength, .int t_code, .int t_at, .ref q_t_read, .int t_number, .ref q_t_counts, .ref q_t_scores, .ref q_t_isIn, .ref q_t_order, .int t_ranked, .int t_emptySide, .ref q_t_row, .ref q_t_listing, .int t_listingLength, .long t_hash])), (q_t_m, .inl (cy 0, 378, .inl t_m))] (fun v w => w = [(q_t, .inr (6, [.ref q_t_m, .ref q_t_saved, .int t_savedCount, .ref q_t_text, .int t_textLength, .int t_code, .int t_at, .ref q_t_read, .int t_number, .ref q_t_counts, .ref q_t_scores, .ref q_t_isIn, .ref q_t_order, .int t_ranked, .int t_emptySide, .ref q_t_row, .ref q_t_listing, .int t_listingLength, .long t_hash])), (q_t_m, .inl (cy 0, 378, .inl t_m))] ∧ ∃ r : Int32, v = some (.int r) ∧ Q r) := by
  refine UC_of (by decide +kernel) (Nat.le_of_ble_eq_true rfl) [(0, .ref q_t), (1, .int x1), (2, .int x2)] rfl (fun p e s m args below meth c A cx => ?_)
  unfold p_X6_isBefore at h
  refine v_iconst (v := 0) cx dX6_isBefore_0 (by decide) ?_
  refine v_istore_n (lv' := [(3, .int 0), (0, .ref q_t), (1, .int x1), (2, .int x2)]) cx dX6_isBefore_1 rfl (by decide) rfl ?_
  refine v_lv (lv' := [(0, .ref q_t), (1, .int x1), (2, .int x2), (3, .int 0)]) [1, 2, 3, 0] rfl ?_
  refine w_X6_isBefore_2 cx q_t q_t_m q_t_saved q_t_text q_t_read q_t_counts q_t_scores q_t_isIn q_t_order q_t_row q_t_listing ?_ N _ h
  · intro x3_3 h
    refine v_aload_n cx dX6_isBefore_28 rfl 0 rfl ?_
    refine v_iload_n cx dX6_isBefore_29 rfl 1 rfl ?_
    refine v_iload_n cx dX6_isBefore_30 rfl 3 rfl ?_
    refine v_callVpi (As := [.int x1, .int x3_3]) cx (c_X6_of l g D cy q_t q_t_m q_t_saved q_t_text q_t_read q_t_counts q_t_scores q_t_isIn q_t_order q_t_row q_t_listing h) k_X6_118 (by decide) ⟨rfl, rfl⟩ (by decide) rfl rfl (Nat.le_of_ble_eq_true rfl) dX6_isBefore_31 [0, 1] [] (by decide) (vj_all 2 rfl (by decide +kernel)) rfl rfl rfl (q0 := 0) rfl rfl (fun r_4 h => ?_)
    refine v_aload_n cx dX6_isBefore_34 rfl 0 rfl ?_
    refine v_iload_n cx dX6_isBefore_35 rfl 2 rfl ?_
    refine v_iload_n cx dX6_isBefore_36 rfl 3 rfl ?_
    refine v_callVpi (As := [.int x2, .int x3_3]) cx (c_X6_of l g D cy q_t q_t_m q_t_saved q_t_text q_t_read q_t_counts q_t_scores q_t_isIn q_t_order q_t_row q_t_listing h) k_X6_118 (by decide) ⟨rfl, rfl⟩ (by decide) rfl rfl (Nat.le_of_ble_eq_true rfl) dX6_isBefore_37 [0, 1] [] (by decide) (vj_all 2 rfl (by decide +kernel)) rfl rfl rfl (q0 := 0) rfl rfl (fun r_5 h => ?_)
    refine v_icmp_ge (tgt := 47) cx dX6_isBefore_40 (by decide) h (fun h => ?_) (fun h => ?_)
    · refine v_iconst (v := 0) cx dX6_isBefore_47 (by decide) ?_
      exact v_ireturn cx rfl dX6_isBefore_48 ⟨rfl, _, rfl, h⟩
    · refine v_iconst (v := 1) cx dX6_isBefore_43 (by decide) ?_
      refine v_goto (tgt := 48) cx dX6_isBefore_44 (by decide) ?_
      exact v_ireturn cx rfl dX6_isBefore_48 ⟨rfl, _, rfl, h⟩
abbrev rm_X6_list : Room := { frames := 2, cells := 0, slots := 0, locals := 45 }
set_option maxHeartbeats 4000000 in
set_option maxRecDepth 100000 in
theorem w_X6_list_14 {p : Program} {l : Launch} {e : Env} {s : State} {m : MethodId} {args : Array Value} {below : List Frame} {meth : Method} {c : Code} {Q9 : State → Prop} {mn : String} {Ts : List Cond} {D : va_G} {cy : Nat → ClassId} {g : gT} {A : Nat → Prop} (cx : vC p s m args meth c cX6_list 3 none RX6 mn Ts D cy g A) (q_t q_t_m q_t_saved q_t_text q_t_read q_t_counts q_t_scores q_t_isIn q_t_order q_t_row q_t_listing : Nat) {x1 : Int32} {t_savedCount : Int32} {t_textLength : Int32} {t_code : Int32} {t_at : Int32} {t_number : Int32} {t_ranked : Int32} {t_emptySide : Int32} {t_listingLength : Int32} {t_hash : Int64} {t_m : Nat → Int32} {N : Nat} {K54 : Int32 → (Nat → Int32) → Prop} (hK54 : ∀ (x2 : Int32) (t_row : Nat → Int32), K54 x2 t_row → vV p l e rm_X6_list s m args below meth c Q9 3 D A 0 0 [(q_t, .inr (6, [.ref q_t_m, .ref q_t_saved, .int t_savedCount, .ref q_t_text, .int t_textLength, .int t_code, .int t_at, .ref q_t_read, .int t_number, .ref q_t_counts, .ref q_t_scores, .ref q_t_isIn, .ref q_t_order, .int t_ranked, .int t_emptySide, .ref q_t_row, .ref q_t_listing, .int t_listingLength, .long t_hash])), (q_t_m, .inl (cy 0, 378, .inl t_m)), (q_t_row, .inl (cy 0, 16, .inl t_row))] 54 [(0, .ref q_t), (1, .int x1), (2, .int x2)] []) : ∀ (n : Nat) (x2 : Int32) (t_row : Nat → Int32), p_X6_list_14 N x1 t_savedCount t_textLength t_code t_at t_number t_ranked t_emptySide t_listingLength t_hash t_m K54 n x2 t_row → vV p l e rm_X6_list s m args below meth c Q9 3 D A 0 0 [(q_t, .inr (6, [.ref q_t_m, .ref q_t_saved, .int t_savedCount, .ref q_t_text, .int t_textLength, .int t_code, .int t_at, .ref q_t_read, .int t_number, .ref q_t_counts, .ref q_t_scores, .ref q_t_isIn, .ref q_t_order, .int t_ranked, .int t_emptySide, .ref q_t_row, .ref q_t_listing, .int t_listingLength, .long t_hash])), (q_t_m, .inl (cy 0, 378, .inl t_m)), (q_t_row, .inl (cy 0, 16, .inl t_row))] 14 [(0, .ref q_t), (1, .int x1), (2, .int x2)] [] := by
  intro n
  induction n with
  | zero => intro x2 t_row h; exact False.elim h
  | succ n ih =>
    intro x2 t_row h
    unfold p_X6_list_14 at h
    refine v_iload_n cx dX6_list_14 rfl 2 rfl ?_
    refine v_if_le (tgt := 54) cx dX6_list_15 (by decide) h (fun h => ?_) (fun h => ?_)
    · refine v_lv (lv' := [(0, .ref q_t), (1, .int x1), (2, .int x2)]) [0, 1, 2] rfl ?_
      exact hK54 _ _ h
    · refine v_aload_n cx dX6_list_18 rfl 0 rfl ?_
      refine v_iload_n cx dX6_list_19 rfl 1 rfl ?_
      refine v_aload_n cx dX6_list_20 rfl 0 rfl ?_
      refine g_X6_39 cx dX6_list_21 0 rfl rfl ?_
      refine v_iload_n cx dX6_list_24 rfl 2 rfl ?_
      refine v_iconst (v := 1) cx dX6_list_25 (by decide) ?_
      refine v_isub cx dX6_list_26 ?_
      refine v_iald cx dX6_list_27 2 rfl h (fun h => ?_)
      refine v_callVpi (As := [.int x1, .int (t_row (x2 - 1).toNatClampNeg)]) cx (c_X6_isBefore l g D cy q_t q_t_m q_t_saved q_t_text q_t_read q_t_counts q_t_scores q_t_isIn q_t_order q_t_row q_t_listing h) k_X6_180 (by decide) ⟨rfl, rfl⟩ (by decide) rfl rfl (Nat.le_of_ble_eq_true rfl) dX6_list_28 [0, 1] [2] (by decide) (vj_all 3 rfl (by decide +kernel)) rfl rfl rfl (q0 := 0) rfl rfl (fun r_1 h => ?_)
      refine v_if_eq (tgt := 54) cx dX6_list_31 (by decide) h (fun h => ?_) (fun h => ?_)
      · refine v_lv (lv' := [(0, .ref q_t), (1, .int x1), (2, .int x2)]) [0, 1, 2] rfl ?_
        exact hK54 _ _ h
      · refine v_aload_n cx dX6_list_34 rfl 0 rfl ?_
        refine g_X6_39 cx dX6_list_35 0 rfl rfl ?_
        refine v_iload_n cx dX6_list_38 rfl 2 rfl ?_
        refine v_aload_n cx dX6_list_39 rfl 0 rfl ?_
        refine g_X6_39 cx dX6_list_40 0 rfl rfl ?_
        refine v_iload_n cx dX6_list_43 rfl 2 rfl ?_
        refine v_iconst (v := 1) cx dX6_list_44 (by decide) ?_
        refine v_isub cx dX6_list_45 ?_
        refine v_iald cx dX6_list_46 2 rfl h (fun h => ?_)
        refine v_iast (ws' := [(q_t, .inr (6, [.ref q_t_m, .ref q_t_saved, .int t_savedCount, .ref q_t_text, .int t_textLength, .int t_code, .int t_at, .ref q_t_read, .int t_number, .ref q_t_counts, .ref q_t_scores, .ref q_t_isIn, .ref q_t_order, .int t_ranked, .int t_emptySide, .ref q_t_row, .ref q_t_listing, .int t_listingLength, .long t_hash])), (q_t_m, .inl (cy 0, 378, .inl t_m)), (q_t_row, .inl (cy 0, 16, .inl (upd t_row x2.toNatClampNeg (t_row (x2 - 1).toNatClampNeg))))]) cx dX6_list_47 2 rfl h rfl (fun h => ?_)
        refine v_iinc (v := x2 + (-1)) (k0 := 2) (lv' := [(2, .int (x2 + (-1))), (0, .ref q_t), (1, .int x1)]) cx dX6_list_48 rfl rfl (by decide) rfl ?_
        refine v_goto (tgt := 14) cx dX6_list_51 (by decide) ?_
        refine v_lv (lv' := [(0, .ref q_t), (1, .int x1), (2, .int (x2 + (-1)))]) [1, 2, 0] rfl ?_
        exact ih _ _ h
set_option maxHeartbeats 4000000 in
set_option maxRecDepth 100000 in
theorem w_X6_list_2 {p : Program} {l : Launch} {e : Env} {s : State} {m : MethodId} {args : Array Value} {below : List Frame} {meth : Method} {c : Code} {Q9 : State → Prop} {mn : String} {Ts : List Cond} {D : va_G} {cy : Nat → ClassId} {g : gT} {A : Nat → Prop} (cx : vC p s m args meth c cX6_list 3 none RX6 mn Ts D cy g A) (q_t q_t_m q_t_saved q_t_text q_t_read q_t_counts q_t_scores q_t_isIn q_t_order q_t_row q_t_listing : Nat) {t_savedCount : Int32} {t_textLength : Int32} {t_code : Int32} {t_at : Int32} {t_number : Int32} {t_ranked : Int32} {t_emptySide : Int32} {t_listingLength : Int32} {t_hash : Int64} {t_m : Nat → Int32} {N : Nat} {K67 : Int32 → (Nat → Int32) → Prop} (hK67 : ∀ (x1 : Int32) (t_row : Nat → Int32), K67 x1 t_row → vV p l e rm_X6_list s m args below meth c Q9 3 D A 0 0 [(q_t, .inr (6, [.ref q_t_m, .ref q_t_saved, .int t_savedCount, .ref q_t_text, .int t_textLength, .int t_code, .int t_at, .ref q_t_read, .int t_number, .ref q_t_counts, .ref q_t_scores, .ref q_t_isIn, .ref q_t_order, .int t_ranked, .int t_emptySide, .ref q_t_row, .ref q_t_listing, .int t_listingLength, .long t_hash])), (q_t_m, .inl (cy 0, 378, .inl t_m)), (q_t_row, .inl (cy 0, 16, .inl t_row))] 67 [(0, .ref q_t), (1, .int x1)] []) : ∀ (n : Nat) (x1 : Int32) (t_row : Nat → Int32), p_X6_list_2 N t_savedCount t_textLength t_code t_at t_number t_ranked t_emptySide t_listingLength t_hash t_m K67 n x1 t_row → vV p l e rm_X6_list s m args below meth c Q9 3 D A 0 0 [(q_t, .inr (6, [.ref q_t_m, .ref q_t_saved, .int t_savedCount, .ref q_t_text, .int t_textLength, .int t_code, .int t_at, .ref q_t_read, .int t_number, .ref q_t_counts, .ref q_t_scores, .ref q_t_isIn, .ref q_t_order, .int t_ranked, .int t_emptySide, .ref q_t_row, .ref q_t_listing, .int t_listingLength, .long t_hash])), (q_t_m, .inl (cy 0, 378, .inl t_m)), (q_t_row, .inl (cy 0, 16, .inl t_row))] 2 [(0, .ref q_t), (1, .int x1)] [] := by
  intro n
  induction n with
  | zero => intro x1 t_row h; exact False.elim h
  | succ n ih =>
    intro x1 t_row h
    unfold p_X6_list_2 at h
    refine v_iload_n cx dX6_list_2 rfl 1 rfl ?_
    refine v_aload_n cx dX6_list_3 rfl 0 rfl ?_
    refine g_X6_7 cx dX6_list_4 0 rfl rfl ?_
    refine v_iconst (v := 0) cx dX6_list_7 (by decide) ?_
    refine v_iald cx dX6_list_8 1 rfl ⟨by unfold vp_in; decide, h⟩ (fun h => ?_)
    refine v_icmp_ge (tgt := 67) cx dX6_list_9 (by decide) h (fun h => ?_) (fun h => ?_)
    · refine v_lv (lv' := [(0, .ref q_t), (1, .int x1)]) [0, 1] rfl ?_
      exact hK67 _ _ h
    · refine v_iload_n cx dX6_list_12 rfl 1 rfl ?_
      refine v_istore_n (lv' := [(2, .int x1), (0, .ref q_t), (1, .int x1)]) cx dX6_list_13 rfl (by decide) rfl ?_
      refine v_lv (lv' := [(0, .ref q_t), (1, .int x1), (2, .int x1)]) [1, 2, 0] rfl ?_
      refine w_X6_list_14 cx q_t q_t_m q_t_saved q_t_text q_t_read q_t_counts q_t_scores q_t_isIn q_t_order q_t_row q_t_listing ?_ N _ _ h
      · intro x2_2 t_row_3 h
        refine v_aload_n cx dX6_list_54 rfl 0 rfl ?_
        refine g_X6_39 cx dX6_list_55 0 rfl rfl ?_
        refine v_iload_n cx dX6_list_58 rfl 2 rfl ?_
        refine v_iload_n cx dX6_list_59 rfl 1 rfl ?_
        refine v_iast (ws' := [(q_t, .inr (6, [.ref q_t_m, .ref q_t_saved, .int t_savedCount, .ref q_t_text, .int t_textLength, .int t_code, .int t_at, .ref q_t_read, .int t_number, .ref q_t_counts, .ref q_t_scores, .ref q_t_isIn, .ref q_t_order, .int t_ranked, .int t_emptySide, .ref q_t_row, .ref q_t_listing, .int t_listingLength, .long t_hash])), (q_t_m, .inl (cy 0, 378, .inl t_m)), (q_t_row, .inl (cy 0, 16, .inl (upd t_row_3 x2_2.toNatClampNeg x1)))]) cx dX6_list_60 2 rfl h rfl (fun h => ?_)
        refine v_iinc (v := x1 + 1) (k0 := 1) (lv' := [(1, .int (x1 + 1)), (0, .ref q_t), (2, .int x2_2)]) cx dX6_list_61 rfl rfl (by decide) rfl ?_
        refine v_goto (tgt := 2) cx dX6_list_64 (by decide) ?_
        refine v_lv (lv' := [(0, .ref q_t), (1, .int (x1 + 1))]) [1, 0] rfl ?_
        exact ih _ _ h
set_option maxHeartbeats 4000000 in
set_option maxRecDepth 100000 in
theorem c_X6_list (l : Launch) (g : gT) (D : va_G) (cy : Nat → ClassId) (q_t q_t_m q_t_saved q_t_text q_t_read q_t_counts q_t_scores q_t_isIn q_t_order q_t_row q_t_listing : Nat) {t_savedCount : Int32} {t_textLength : Int32} {t_code : Int32} {t_at : Int32} {t_number : Int32} {t_ranked : Int32} {t_emptySide : Int32} {t_listingLength : Int32} {t_hash : Int64} {t_m : Nat → Int32} {t_row : Nat → Int32} {N : Nat} {Q : (Nat → Int32) → Prop} (h : p_X6_list N t_savedCount t_textLength t_code t_at t_number t_ranked t_emptySide t_listingLength t_hash t_m t_row Q) : UC l yX6_list cX6_list 3 none rm_X6_list g D cy [.ref q_t] [(q_t, .inr (6, [.ref q_t_m, .ref q_t_saved, .int t_savedCount, .ref q_t_text, .int t_textLength, .int t_code, .int t_at, .ref q_t_read, .int t_number, .ref q_t_counts, .ref q_t_scores, .ref q_t_isIn, .ref q_t_order, .int t_ranked, .int t_emptySide, .ref q_t_row, .ref q_t_listing, .int t_listingLength, .long t_hash])), (q_t_m, .inl (cy 0, 378, .inl t_m)), (q_t_row, .inl (cy 0, 16, .inl t_row))] (fun v w => ∃ (t_row' : Nat → Int32), v = none ∧ w = [(q_t, .inr (6, [.ref q_t_m, .ref q_t_saved, .int t_savedCount, .ref q_t_text, .int t_textLength, .int t_code, .int t_at, .ref q_t_read, .int t_number, .ref q_t_counts, .ref q_t_scores, .ref q_t_isIn, .ref q_t_order, .int t_ranked, .int t_emptySide, .ref q_t_row, .ref q_t_listing, .int t_listingLength, .long t_hash])), (q_t_m, .inl (cy 0, 378, .inl t_m)), (q_t_row, .inl (cy 0, 16, .inl t_row'))] ∧ Q t_row') := by
  refine UC_of (by decide +kernel) (Nat.le_of_ble_eq_true rfl) [(0, .ref q_t)] rfl (fun p e s m args below meth c A cx => ?_)
  unfold p_X6_list at h
  refine v_iconst (v := 0) cx dX6_list_0 (by decide) ?_
  refine v_istore_n (lv' := [(1, .int 0), (0, .ref q_t)]) cx dX6_list_1 rfl (by decide) rfl ?_
  refine v_lv (lv' := [(0, .ref q_t), (1, .int 0)]) [1, 0] rfl ?_
  refine w_X6_list_2 cx q_t q_t_m q_t_saved q_t_text q_t_read q_t_counts q_t_scores q_t_isIn q_t_order q_t_row q_t_listing ?_ N _ _ h
  · intro x1_4 t_row_5 h
    exact v_return cx dX6_list_67 ⟨_, rfl, rfl, h⟩
abbrev rm_X6_write : Room := { frames := 0, cells := 0, slots := 0, locals := 0 }
set_option maxHeartbeats 4000000 in
set_option maxRecDepth 100000 in
theorem c_X6_write (l : Launch) (g : gT) (D : va_G) (cy : Nat → ClassId) (q_t q_t_m q_t_saved q_t_text q_t_read q_t_counts q_t_scores q_t_isIn q_t_order q_t_row q_t_listing : Nat) {t_savedCount : Int32} {t_textLength : Int32} {t_code : Int32} {t_at : Int32} {t_number : Int32} {t_ranked : Int32} {t_emptySide : Int32} {t_listingLength : Int32} {t_hash : Int64} {t_listing : Nat → Int32} {x1 : Int32} {N : Nat} {Q : Int32 → (Nat → Int32) → Prop} (h : p_X6_write N t_savedCount t_textLength t_code t_at t_number t_ranked t_emptySide t_listingLength t_hash t_listing x1 Q) : UC l yX6_write cX6_write 2 none rm_X6_write g D cy [.ref q_t, .int x1] [(q_t, .inr (6, [.ref q_t_m, .ref q_t_saved, .int t_savedCount, .ref q_t_text, .int t_textLength, .int t_code, .int t_at, .ref q_t_read, .int t_number, .ref q_t_counts, .ref q_t_scores, .ref q_t_isIn, .ref q_t_order, .int t_ranked, .int t_emptySide, .ref q_t_row, .ref q_t_listing, .int t_listingLength, .long t_hash])), (q_t_listing, .inl (cy 0, 800, .inl t_listing))] (fun v w => ∃ (t_listingLength' : Int32) (t_listing' : Nat → Int32), v = none ∧ w = [(q_t, .inr (6, [.ref q_t_m, .ref q_t_saved, .int t_savedCount, .ref q_t_text, .int t_textLength, .int t_code, .int t_at, .ref q_t_read, .int t_number, .ref q_t_counts, .ref q_t_scores, .ref q_t_isIn, .ref q_t_order, .int t_ranked, .int t_emptySide, .ref q_t_row, .ref q_t_listing, .int t_listingLength', .long t_hash])), (q_t_listing, .inl (cy 0, 800, .inl t_listing'))] ∧ Q t_listingLength' t_listing') := by
  refine UC_of (by decide +kernel) (Nat.le_of_ble_eq_true rfl) [(0, .ref q_t), (1, .int x1)] rfl (fun p e s m args below meth c A cx => ?_)
  unfold p_X6_write at h
  refine v_aload_n cx dX6_write_0 rfl 0 rfl ?_
  refine g_X6_42 cx dX6_write_1 0 rfl rfl ?_
  refine v_aload_n cx dX6_write_4 rfl 0 rfl ?_
  refine g_X6_183 cx dX6_write_5 0 rfl rfl ?_
  refine v_iload_n cx dX6_write_8 rfl 1 rfl ?_
  refine v_iast (ws' := [(q_t, .inr (6, [.ref q_t_m, .ref q_t_saved, .int t_savedCount, .ref q_t_text, .int t_textLength, .int t_code, .int t_at, .ref q_t_read, .int t_number, .ref q_t_counts, .ref q_t_scores, .ref q_t_isIn, .ref q_t_order, .int t_ranked, .int t_emptySide, .ref q_t_row, .ref q_t_listing, .int t_listingLength, .long t_hash])), (q_t_listing, .inl (cy 0, 800, .inl (upd t_listing t_listingLength.toNatClampNeg x1)))]) cx dX6_write_9 1 rfl h rfl (fun h => ?_)
  refine v_aload_n cx dX6_write_10 rfl 0 rfl ?_
  refine v_dup cx dX6_write_11 rfl ?_
  refine g_X6_183 cx dX6_write_12 0 rfl rfl ?_
  refine v_iconst (v := 1) cx dX6_write_15 (by decide) ?_
  refine v_iadd cx dX6_write_16 ?_
  refine p_X6_183 (ws' := [(q_t, .inr (6, [.ref q_t_m, .ref q_t_saved, .int t_savedCount, .ref q_t_text, .int t_textLength, .int t_code, .int t_at, .ref q_t_read, .int t_number, .ref q_t_counts, .ref q_t_scores, .ref q_t_isIn, .ref q_t_order, .int t_ranked, .int t_emptySide, .ref q_t_row, .ref q_t_listing, .int (t_listingLength + 1), .long t_hash])), (q_t_listing, .inl (cy 0, 800, .inl (upd t_listing t_listingLength.toNatClampNeg x1)))]) cx dX6_write_17 0 rfl rfl rfl (Nat.le_of_ble_eq_true rfl) rfl ?_
  exact v_return cx dX6_write_20 ⟨_, _, rfl, rfl, h⟩
abbrev rm_X6_writeName : Room := { frames := 1, cells := 0, slots := 0, locals := 21 }
set_option maxHeartbeats 4000000 in
set_option maxRecDepth 100000 in
theorem w_X6_writeName_2 {p : Program} {l : Launch} {e : Env} {s : State} {m : MethodId} {args : Array Value} {below : List Frame} {meth : Method} {c : Code} {Q9 : State → Prop} {mn : String} {Ts : List Cond} {D : va_G} {cy : Nat → ClassId} {g : gT} {A : Nat → Prop} (cx : vC p s m args meth c cX6_writeName 3 none RX6 mn Ts D cy g A) (q_t q_t_m q_t_saved q_t_text q_t_read q_t_counts q_t_scores q_t_isIn q_t_order q_t_row q_t_listing : Nat) {x1 : Int32} {t_savedCount : Int32} {t_textLength : Int32} {t_code : Int32} {t_at : Int32} {t_number : Int32} {t_ranked : Int32} {t_emptySide : Int32} {t_hash : Int64} {N : Nat} {K37 : Int32 → Int32 → (Nat → Int32) → Prop} (hK37 : ∀ (x2 : Int32) (t_listingLength : Int32) (t_listing : Nat → Int32), K37 x2 t_listingLength t_listing → vV p l e rm_X6_writeName s m args below meth c Q9 3 D A 0 0 [(q_t, .inr (6, [.ref q_t_m, .ref q_t_saved, .int t_savedCount, .ref q_t_text, .int t_textLength, .int t_code, .int t_at, .ref q_t_read, .int t_number, .ref q_t_counts, .ref q_t_scores, .ref q_t_isIn, .ref q_t_order, .int t_ranked, .int t_emptySide, .ref q_t_row, .ref q_t_listing, .int t_listingLength, .long t_hash])), (q_t_listing, .inl (cy 0, 800, .inl t_listing))] 37 [(0, .ref q_t), (1, .int x1), (2, .int x2)] []) : ∀ (n : Nat) (x2 : Int32) (t_listingLength : Int32) (t_listing : Nat → Int32), p_X6_writeName_2 N x1 t_savedCount t_textLength t_code t_at t_number t_ranked t_emptySide t_hash K37 n x2 t_listingLength t_listing → vV p l e rm_X6_writeName s m args below meth c Q9 3 D A 0 0 [(q_t, .inr (6, [.ref q_t_m, .ref q_t_saved, .int t_savedCount, .ref q_t_text, .int t_textLength, .int t_code, .int t_at, .ref q_t_read, .int t_number, .ref q_t_counts, .ref q_t_scores, .ref q_t_isIn, .ref q_t_order, .int t_ranked, .int t_emptySide, .ref q_t_row, .ref q_t_listing, .int t_listingLength, .long t_hash])), (q_t_listing, .inl (cy 0, 800, .inl t_listing))] 2 [(0, .ref q_t), (1, .int x1), (2, .int x2)] [] := by
  intro n
  induction n with
  | zero => intro x2 t_listingLength t_listing h; exact False.elim h
  | succ n ih =>
    intro x2 t_listingLength t_listing h
    unfold p_X6_writeName_2 at h
    refine v_iload_n cx dX6_writeName_2 rfl 2 rfl ?_
    refine v_if_lt (tgt := 37) cx dX6_writeName_3 (by decide) h (fun h => ?_) (fun h => ?_)
    · refine v_lv (lv' := [(0, .ref q_t), (1, .int x1), (2, .int x2)]) [0, 1, 2] rfl ?_
      exact hK37 _ _ _ h
    · refine v_iload_n cx dX6_writeName_6 rfl 1 rfl ?_
      refine v_bipush (v := 8) cx dX6_writeName_7 (by decide) ?_
      refine v_iload_n cx dX6_writeName_9 rfl 2 rfl ?_
      refine v_imul cx dX6_writeName_10 ?_
      refine v_ishr cx dX6_writeName_11 ?_
      refine v_bipush (v := 127) cx dX6_writeName_12 (by decide) ?_
      refine v_iand cx dX6_writeName_14 ?_
      refine v_if_eq (tgt := 31) cx dX6_writeName_15 (by decide) h (fun h => ?_) (fun h => ?_)
      · refine v_iinc (v := x2 + (-1)) (k0 := 2) (lv' := [(2, .int (x2 + (-1))), (0, .ref q_t), (1, .int x1)]) cx dX6_writeName_31 rfl rfl (by decide) rfl ?_
        refine v_goto (tgt := 2) cx dX6_writeName_34 (by decide) ?_
        refine v_lv (lv' := [(0, .ref q_t), (1, .int x1), (2, .int (x2 + (-1)))]) [1, 2, 0] rfl ?_
        exact ih _ _ _ h
      · refine v_aload_n cx dX6_writeName_18 rfl 0 rfl ?_
        refine v_iload_n cx dX6_writeName_19 rfl 1 rfl ?_
        refine v_bipush (v := 8) cx dX6_writeName_20 (by decide) ?_
        refine v_iload_n cx dX6_writeName_22 rfl 2 rfl ?_
        refine v_imul cx dX6_writeName_23 ?_
        refine v_ishr cx dX6_writeName_24 ?_
        refine v_bipush (v := 127) cx dX6_writeName_25 (by decide) ?_
        refine v_iand cx dX6_writeName_27 ?_
        refine v_callV (As := [.int ((x1 >>> ((8 * x2) &&& 31)) &&& 127)]) cx (c_X6_write l g D cy q_t q_t_m q_t_saved q_t_text q_t_read q_t_counts q_t_scores q_t_isIn q_t_order q_t_row q_t_listing h) k_X6_186 (by decide) (by decide) rfl rfl (Nat.le_of_ble_eq_true rfl) dX6_writeName_28 [0, 1] [] (by decide) rfl rfl rfl (q0 := 0) rfl rfl (fun v9 w9 hp => ?_)
        obtain ⟨u_1, u_2, rfl, rfl, h⟩ := hp
        refine v_afterJ (ws' := [(q_t, .inr (6, [.ref q_t_m, .ref q_t_saved, .int t_savedCount, .ref q_t_text, .int t_textLength, .int t_code, .int t_at, .ref q_t_read, .int t_number, .ref q_t_counts, .ref q_t_scores, .ref q_t_isIn, .ref q_t_order, .int t_ranked, .int t_emptySide, .ref q_t_row, .ref q_t_listing, .int u_1, .long t_hash])), (q_t_listing, .inl (cy 0, 800, .inl u_2))]) (st' := []) (ce := 0) (sl := 0) 2 [2, 3] (by decide +kernel) (by decide +kernel) rfl rfl ⟨rfl, rfl⟩ ?_
        refine v_iinc (v := x2 + (-1)) (k0 := 2) (lv' := [(2, .int (x2 + (-1))), (0, .ref q_t), (1, .int x1)]) cx dX6_writeName_31 rfl rfl (by decide) rfl ?_
        refine v_goto (tgt := 2) cx dX6_writeName_34 (by decide) ?_
        refine v_lv (lv' := [(0, .ref q_t), (1, .int x1), (2, .int (x2 + (-1)))]) [1, 2, 0] rfl ?_
        exact ih _ _ _ h
set_option maxHeartbeats 4000000 in
set_option maxRecDepth 100000 in
theorem c_X6_writeName (l : Launch) (g : gT) (D : va_G) (cy : Nat → ClassId) (q_t q_t_m q_t_saved q_t_text q_t_read q_t_counts q_t_scores q_t_isIn q_t_order q_t_row q_t_listing : Nat) {t_savedCount : Int32} {t_textLength : Int32} {t_code : Int32} {t_at : Int32} {t_number : Int32} {t_ranked : Int32} {t_emptySide : Int32} {t_listingLength : Int32} {t_hash : Int64} {t_listing : Nat → Int32} {x1 : Int32} {N : Nat} {Q : Int32 → (Nat → Int32) → Prop} (h : p_X6_writeName N t_savedCount t_textLength t_code t_at t_number t_ranked t_emptySide t_listingLength t_hash t_listing x1 Q) : UC l yX6_writeName cX6_writeName 3 none rm_X6_writeName g D cy [.ref q_t, .int x1] [(q_t, .inr (6, [.ref q_t_m, .ref q_t_saved, .int t_savedCount, .ref q_t_text, .int t_textLength, .int t_code, .int t_at, .ref q_t_read, .int t_number, .ref q_t_counts, .ref q_t_scores, .ref q_t_isIn, .ref q_t_order, .int t_ranked, .int t_emptySide, .ref q_t_row, .ref q_t_listing, .int t_listingLength, .long t_hash])), (q_t_listing, .inl (cy 0, 800, .inl t_listing))] (fun v w => ∃ (t_listingLength' : Int32) (t_listing' : Nat → Int32), v = none ∧ w = [(q_t, .inr (6, [.ref q_t_m, .ref q_t_saved, .int t_savedCount, .ref q_t_text, .int t_textLength, .int t_code, .int t_at, .ref q_t_read, .int t_number, .ref q_t_counts, .ref q_t_scores, .ref q_t_isIn, .ref q_t_order, .int t_ranked, .int t_emptySide, .ref q_t_row, .ref q_t_listing, .int t_listingLength', .long t_hash])), (q_t_listing, .inl (cy 0, 800, .inl t_listing'))] ∧ Q t_listingLength' t_listing') := by
  refine UC_of (by decide +kernel) (Nat.le_of_ble_eq_true rfl) [(0, .ref q_t), (1, .int x1)] rfl (fun p e s m args below meth c A cx => ?_)
  unfold p_X6_writeName at h
  refine v_iconst (v := 3) cx dX6_writeName_0 (by decide) ?_
  refine v_istore_n (lv' := [(2, .int 3), (0, .ref q_t), (1, .int x1)]) cx dX6_writeName_1 rfl (by decide) rfl ?_
  refine v_lv (lv' := [(0, .ref q_t), (1, .int x1), (2, .int 3)]) [1, 2, 0] rfl ?_
  refine w_X6_writeName_2 cx q_t q_t_m q_t_saved q_t_text q_t_read q_t_counts q_t_scores q_t_isIn q_t_order q_t_row q_t_listing ?_ N _ _ _ h
  · intro x2_3 t_listingLength_4 t_listing_5 h
    exact v_return cx dX6_writeName_37 ⟨_, _, rfl, rfl, h⟩
abbrev rm_X6_writeVariant : Room := { frames := 2, cells := 0, slots := 0, locals := 43 }
set_option maxHeartbeats 4000000 in
set_option maxRecDepth 100000 in
theorem w_X6_writeVariant_28 {p : Program} {l : Launch} {e : Env} {s : State} {m : MethodId} {args : Array Value} {below : List Frame} {meth : Method} {c : Code} {Q9 : State → Prop} {mn : String} {Ts : List Cond} {D : va_G} {cy : Nat → ClassId} {g : gT} {A : Nat → Prop} (cx : vC p s m args meth c cX6_writeVariant 3 none RX6 mn Ts D cy g A) (q_t q_t_m q_t_saved q_t_text q_t_read q_t_counts q_t_scores q_t_isIn q_t_order q_t_row q_t_listing : Nat) {x1 : Int32} {t_savedCount : Int32} {t_textLength : Int32} {t_code : Int32} {t_at : Int32} {t_number : Int32} {t_ranked : Int32} {t_emptySide : Int32} {t_hash : Int64} {t_m : Nat → Int32} {N : Nat} {K77 : Int32 → Int32 → (Nat → Int32) → Prop} (hK77 : ∀ (x2 : Int32) (t_listingLength : Int32) (t_listing : Nat → Int32), K77 x2 t_listingLength t_listing → vV p l e rm_X6_writeVariant s m args below meth c Q9 3 D A 0 0 [(q_t, .inr (6, [.ref q_t_m, .ref q_t_saved, .int t_savedCount, .ref q_t_text, .int t_textLength, .int t_code, .int t_at, .ref q_t_read, .int t_number, .ref q_t_counts, .ref q_t_scores, .ref q_t_isIn, .ref q_t_order, .int t_ranked, .int t_emptySide, .ref q_t_row, .ref q_t_listing, .int t_listingLength, .long t_hash])), (q_t_m, .inl (cy 0, 378, .inl t_m)), (q_t_listing, .inl (cy 0, 800, .inl t_listing))] 77 [(0, .ref q_t), (1, .int x1), (2, .int x2)] []) : ∀ (n : Nat) (x2 : Int32) (t_listingLength : Int32) (t_listing : Nat → Int32), p_X6_writeVariant_28 N x1 t_savedCount t_textLength t_code t_at t_number t_ranked t_emptySide t_hash t_m K77 n x2 t_listingLength t_listing → vV p l e rm_X6_writeVariant s m args below meth c Q9 3 D A 0 0 [(q_t, .inr (6, [.ref q_t_m, .ref q_t_saved, .int t_savedCount, .ref q_t_text, .int t_textLength, .int t_code, .int t_at, .ref q_t_read, .int t_number, .ref q_t_counts, .ref q_t_scores, .ref q_t_isIn, .ref q_t_order, .int t_ranked, .int t_emptySide, .ref q_t_row, .ref q_t_listing, .int t_listingLength, .long t_hash])), (q_t_m, .inl (cy 0, 378, .inl t_m)), (q_t_listing, .inl (cy 0, 800, .inl t_listing))] 28 [(0, .ref q_t), (1, .int x1), (2, .int x2)] [] := by
  intro n
  induction n with
  | zero => intro x2 t_listingLength t_listing h; exact False.elim h
  | succ n ih =>
    intro x2 t_listingLength t_listing h
    unfold p_X6_writeVariant_28 at h
    refine v_iload_n cx dX6_writeVariant_28 rfl 2 rfl ?_
    refine v_iconst (v := 3) cx dX6_writeVariant_29 (by decide) ?_
    refine v_icmp_ge (tgt := 77) cx dX6_writeVariant_30 (by decide) h (fun h => ?_) (fun h => ?_)
    · refine v_lv (lv' := [(0, .ref q_t), (1, .int x1), (2, .int x2)]) [0, 1, 2] rfl ?_
      exact hK77 _ _ _ h
    · refine v_aload_n cx dX6_writeVariant_33 rfl 0 rfl ?_
      refine v_iload_n cx dX6_writeVariant_34 rfl 1 rfl ?_
      refine v_iconst (v := 2) cx dX6_writeVariant_35 (by decide) ?_
      refine v_iload_n cx dX6_writeVariant_36 rfl 2 rfl ?_
      refine v_iadd cx dX6_writeVariant_37 ?_
      refine v_callVpi (As := [.int x1, .int (2 + x2)]) cx (c_X6_of l g D cy q_t q_t_m q_t_saved q_t_text q_t_read q_t_counts q_t_scores q_t_isIn q_t_order q_t_row q_t_listing h) k_X6_118 (by decide) ⟨rfl, rfl⟩ (by decide) rfl rfl (Nat.le_of_ble_eq_true rfl) dX6_writeVariant_38 [0, 1] [2] (by decide) (vj_all 3 rfl (by decide +kernel)) rfl rfl rfl (q0 := 0) rfl rfl (fun r_9 h => ?_)
      refine v_if_eq (tgt := 71) cx dX6_writeVariant_41 (by decide) h (fun h => ?_) (fun h => ?_)
      · refine v_iinc (v := x2 + 1) (k0 := 2) (lv' := [(2, .int (x2 + 1)), (0, .ref q_t), (1, .int x1)]) cx dX6_writeVariant_71 rfl rfl (by decide) rfl ?_
        refine v_goto (tgt := 28) cx dX6_writeVariant_74 (by decide) ?_
        refine v_lv (lv' := [(0, .ref q_t), (1, .int x1), (2, .int (x2 + 1))]) [1, 2, 0] rfl ?_
        exact ih _ _ _ h
      · refine v_aload_n cx dX6_writeVariant_44 rfl 0 rfl ?_
        refine v_iload_n cx dX6_writeVariant_45 rfl 2 rfl ?_
        refine v_if_ne (tgt := 54) cx dX6_writeVariant_46 (by decide) h (fun h => ?_) (fun h => ?_)
        · refine v_bipush (v := 45) cx dX6_writeVariant_54 (by decide) ?_
          refine v_callV (As := [.int 45]) cx (c_X6_write l g D cy q_t q_t_m q_t_saved q_t_text q_t_read q_t_counts q_t_scores q_t_isIn q_t_order q_t_row q_t_listing h) k_X6_186 (by decide) (by decide) rfl rfl (Nat.le_of_ble_eq_true rfl) dX6_writeVariant_56 [0, 2] [1] (by decide) rfl rfl rfl (q0 := 0) rfl rfl (fun v9 w9 hp => ?_)
          obtain ⟨u_10, u_11, rfl, rfl, h⟩ := hp
          refine v_afterJ (ws' := [(q_t, .inr (6, [.ref q_t_m, .ref q_t_saved, .int t_savedCount, .ref q_t_text, .int t_textLength, .int t_code, .int t_at, .ref q_t_read, .int t_number, .ref q_t_counts, .ref q_t_scores, .ref q_t_isIn, .ref q_t_order, .int t_ranked, .int t_emptySide, .ref q_t_row, .ref q_t_listing, .int u_10, .long t_hash])), (q_t_m, .inl (cy 0, 378, .inl t_m)), (q_t_listing, .inl (cy 0, 800, .inl u_11))]) (st' := []) (ce := 0) (sl := 0) 3 [3, 1, 4] (by decide +kernel) (by decide +kernel) rfl rfl ⟨rfl, rfl⟩ ?_
          refine v_aload_n cx dX6_writeVariant_59 rfl 0 rfl ?_
          refine v_aload_n cx dX6_writeVariant_60 rfl 0 rfl ?_
          refine v_iload_n cx dX6_writeVariant_61 rfl 1 rfl ?_
          refine v_iconst (v := 2) cx dX6_writeVariant_62 (by decide) ?_
          refine v_iload_n cx dX6_writeVariant_63 rfl 2 rfl ?_
          refine v_iadd cx dX6_writeVariant_64 ?_
          refine v_callVpi (As := [.int x1, .int (2 + x2)]) cx (c_X6_of l g D cy q_t q_t_m q_t_saved q_t_text q_t_read q_t_counts q_t_scores q_t_isIn q_t_order q_t_row q_t_listing h) k_X6_118 (by decide) ⟨rfl, rfl⟩ (by decide) rfl rfl (Nat.le_of_ble_eq_true rfl) dX6_writeVariant_65 [0, 1] [2] (by decide) (vj_all 3 rfl (by decide +kernel)) rfl rfl rfl (q0 := 0) rfl rfl (fun r_12 h => ?_)
          refine v_callV (As := [.int r_12]) cx (c_X6_writeName l g D cy q_t q_t_m q_t_saved q_t_text q_t_read q_t_counts q_t_scores q_t_isIn q_t_order q_t_row q_t_listing h) k_X6_189 (by decide) (by decide) rfl rfl (Nat.le_of_ble_eq_true rfl) dX6_writeVariant_68 [0, 2] [1] (by decide) rfl rfl rfl (q0 := 0) rfl rfl (fun v9 w9 hp => ?_)
          obtain ⟨u_13, u_14, rfl, rfl, h⟩ := hp
          refine v_afterJ (ws' := [(q_t, .inr (6, [.ref q_t_m, .ref q_t_saved, .int t_savedCount, .ref q_t_text, .int t_textLength, .int t_code, .int t_at, .ref q_t_read, .int t_number, .ref q_t_counts, .ref q_t_scores, .ref q_t_isIn, .ref q_t_order, .int t_ranked, .int t_emptySide, .ref q_t_row, .ref q_t_listing, .int u_13, .long t_hash])), (q_t_m, .inl (cy 0, 378, .inl t_m)), (q_t_listing, .inl (cy 0, 800, .inl u_14))]) (st' := []) (ce := 0) (sl := 0) 3 [3, 1, 4] (by decide +kernel) (by decide +kernel) rfl rfl ⟨rfl, rfl⟩ ?_
          refine v_iinc (v := x2 + 1) (k0 := 2) (lv' := [(2, .int (x2 + 1)), (0, .ref q_t), (1, .int x1)]) cx dX6_writeVariant_71 rfl rfl (by decide) rfl ?_
          refine v_goto (tgt := 28) cx dX6_writeVariant_74 (by decide) ?_
          refine v_lv (lv' := [(0, .ref q_t), (1, .int x1), (2, .int (x2 + 1))]) [1, 2, 0] rfl ?_
          exact ih _ _ _ h
        · refine v_bipush (v := 32) cx dX6_writeVariant_49 (by decide) ?_
          refine v_goto (tgt := 56) cx dX6_writeVariant_51 (by decide) ?_
          refine v_callV (As := [.int 32]) cx (c_X6_write l g D cy q_t q_t_m q_t_saved q_t_text q_t_read q_t_counts q_t_scores q_t_isIn q_t_order q_t_row q_t_listing h) k_X6_186 (by decide) (by decide) rfl rfl (Nat.le_of_ble_eq_true rfl) dX6_writeVariant_56 [0, 2] [1] (by decide) rfl rfl rfl (q0 := 0) rfl rfl (fun v9 w9 hp => ?_)
          obtain ⟨u_15, u_16, rfl, rfl, h⟩ := hp
          refine v_afterJ (ws' := [(q_t, .inr (6, [.ref q_t_m, .ref q_t_saved, .int t_savedCount, .ref q_t_text, .int t_textLength, .int t_code, .int t_at, .ref q_t_read, .int t_number, .ref q_t_counts, .ref q_t_scores, .ref q_t_isIn, .ref q_t_order, .int t_ranked, .int t_emptySide, .ref q_t_row, .ref q_t_listing, .int u_15, .long t_hash])), (q_t_m, .inl (cy 0, 378, .inl t_m)), (q_t_listing, .inl (cy 0, 800, .inl u_16))]) (st' := []) (ce := 0) (sl := 0) 3 [3, 1, 4] (by decide +kernel) (by decide +kernel) rfl rfl ⟨rfl, rfl⟩ ?_
          refine v_aload_n cx dX6_writeVariant_59 rfl 0 rfl ?_
          refine v_aload_n cx dX6_writeVariant_60 rfl 0 rfl ?_
          refine v_iload_n cx dX6_writeVariant_61 rfl 1 rfl ?_
          refine v_iconst (v := 2) cx dX6_writeVariant_62 (by decide) ?_
          refine v_iload_n cx dX6_writeVariant_63 rfl 2 rfl ?_
          refine v_iadd cx dX6_writeVariant_64 ?_
          refine v_callVpi (As := [.int x1, .int (2 + x2)]) cx (c_X6_of l g D cy q_t q_t_m q_t_saved q_t_text q_t_read q_t_counts q_t_scores q_t_isIn q_t_order q_t_row q_t_listing h) k_X6_118 (by decide) ⟨rfl, rfl⟩ (by decide) rfl rfl (Nat.le_of_ble_eq_true rfl) dX6_writeVariant_65 [0, 1] [2] (by decide) (vj_all 3 rfl (by decide +kernel)) rfl rfl rfl (q0 := 0) rfl rfl (fun r_17 h => ?_)
          refine v_callV (As := [.int r_17]) cx (c_X6_writeName l g D cy q_t q_t_m q_t_saved q_t_text q_t_read q_t_counts q_t_scores q_t_isIn q_t_order q_t_row q_t_listing h) k_X6_189 (by decide) (by decide) rfl rfl (Nat.le_of_ble_eq_true rfl) dX6_writeVariant_68 [0, 2] [1] (by decide) rfl rfl rfl (q0 := 0) rfl rfl (fun v9 w9 hp => ?_)
          obtain ⟨u_18, u_19, rfl, rfl, h⟩ := hp
          refine v_afterJ (ws' := [(q_t, .inr (6, [.ref q_t_m, .ref q_t_saved, .int t_savedCount, .ref q_t_text, .int t_textLength, .int t_code, .int t_at, .ref q_t_read, .int t_number, .ref q_t_counts, .ref q_t_scores, .ref q_t_isIn, .ref q_t_order, .int t_ranked, .int t_emptySide, .ref q_t_row, .ref q_t_listing, .int u_18, .long t_hash])), (q_t_m, .inl (cy 0, 378, .inl t_m)), (q_t_listing, .inl (cy 0, 800, .inl u_19))]) (st' := []) (ce := 0) (sl := 0) 3 [3, 1, 4] (by decide +kernel) (by decide +kernel) rfl rfl ⟨rfl, rfl⟩ ?_
          refine v_iinc (v := x2 + 1) (k0 := 2) (lv' := [(2, .int (x2 + 1)), (0, .ref q_t), (1, .int x1)]) cx dX6_writeVariant_71 rfl rfl (by decide) rfl ?_
          refine v_goto (tgt := 28) cx dX6_writeVariant_74 (by decide) ?_
          refine v_lv (lv' := [(0, .ref q_t), (1, .int x1), (2, .int (x2 + 1))]) [1, 2, 0] rfl ?_
          exact ih _ _ _ h
set_option maxHeartbeats 4000000 in
set_option maxRecDepth 100000 in
theorem w_X6_writeVariant_102 {p : Program} {l : Launch} {e : Env} {s : State} {m : MethodId} {args : Array Value} {below : List Frame} {meth : Method} {c : Code} {Q9 : State → Prop} {mn : String} {Ts : List Cond} {D : va_G} {cy : Nat → ClassId} {g : gT} {A : Nat → Prop} (cx : vC p s m args meth c cX6_writeVariant 3 none RX6 mn Ts D cy g A) (q_t q_t_m q_t_saved q_t_text q_t_read q_t_counts q_t_scores q_t_isIn q_t_order q_t_row q_t_listing : Nat) {x1 : Int32} {t_savedCount : Int32} {t_textLength : Int32} {t_code : Int32} {t_at : Int32} {t_number : Int32} {t_ranked : Int32} {t_emptySide : Int32} {t_listingLength : Int32} {t_hash : Int64} {t_m : Nat → Int32} {t_listing : Nat → Int32} {N : Nat} {K126 : Int32 → Prop} (hK126 : ∀ (x2 : Int32), K126 x2 → vV p l e rm_X6_writeVariant s m args below meth c Q9 3 D A 0 0 [(q_t, .inr (6, [.ref q_t_m, .ref q_t_saved, .int t_savedCount, .ref q_t_text, .int t_textLength, .int t_code, .int t_at, .ref q_t_read, .int t_number, .ref q_t_counts, .ref q_t_scores, .ref q_t_isIn, .ref q_t_order, .int t_ranked, .int t_emptySide, .ref q_t_row, .ref q_t_listing, .int t_listingLength, .long t_hash])), (q_t_m, .inl (cy 0, 378, .inl t_m)), (q_t_listing, .inl (cy 0, 800, .inl t_listing))] 126 [(0, .ref q_t), (1, .int x1), (2, .int x2)] []) : ∀ (n : Nat) (x2 : Int32), p_X6_writeVariant_102 N x1 t_savedCount t_textLength t_code t_at t_number t_ranked t_emptySide t_listingLength t_hash t_m t_listing K126 n x2 → vV p l e rm_X6_writeVariant s m args below meth c Q9 3 D A 0 0 [(q_t, .inr (6, [.ref q_t_m, .ref q_t_saved, .int t_savedCount, .ref q_t_text, .int t_textLength, .int t_code, .int t_at, .ref q_t_read, .int t_number, .ref q_t_counts, .ref q_t_scores, .ref q_t_isIn, .ref q_t_order, .int t_ranked, .int t_emptySide, .ref q_t_row, .ref q_t_listing, .int t_listingLength, .long t_hash])), (q_t_m, .inl (cy 0, 378, .inl t_m)), (q_t_listing, .inl (cy 0, 800, .inl t_listing))] 102 [(0, .ref q_t), (1, .int x1), (2, .int x2)] [] := by
  intro n
  induction n with
  | zero => intro x2 h; exact False.elim h
  | succ n ih =>
    intro x2 h
    unfold p_X6_writeVariant_102 at h
    refine v_iload_n cx dX6_writeVariant_102 rfl 2 rfl ?_
    refine v_iconst (v := 1) cx dX6_writeVariant_103 (by decide) ?_
    refine v_icmp_le (tgt := 126) cx dX6_writeVariant_104 (by decide) h (fun h => ?_) (fun h => ?_)
    · refine v_lv (lv' := [(0, .ref q_t), (1, .int x1), (2, .int x2)]) [0, 1, 2] rfl ?_
      exact hK126 _ h
    · refine v_aload_n cx dX6_writeVariant_107 rfl 0 rfl ?_
      refine v_iload_n cx dX6_writeVariant_108 rfl 1 rfl ?_
      refine v_bipush (v := 6) cx dX6_writeVariant_109 (by decide) ?_
      refine v_callVpi (As := [.int x1, .int 6]) cx (c_X6_of l g D cy q_t q_t_m q_t_saved q_t_text q_t_read q_t_counts q_t_scores q_t_isIn q_t_order q_t_row q_t_listing h) k_X6_118 (by decide) ⟨rfl, rfl⟩ (by decide) rfl rfl (Nat.le_of_ble_eq_true rfl) dX6_writeVariant_111 [0, 1] [2] (by decide) (vj_all 3 rfl (by decide +kernel)) rfl rfl rfl (q0 := 0) rfl rfl (fun r_30 h => ?_)
      refine v_iload_n cx dX6_writeVariant_114 rfl 2 rfl ?_
      refine v_icmp_ge (tgt := 126) cx dX6_writeVariant_115 (by decide) h (fun h => ?_) (fun h => ?_)
      · refine v_lv (lv' := [(0, .ref q_t), (1, .int x1), (2, .int x2)]) [0, 1, 2] rfl ?_
        exact hK126 _ h
      · refine v_iload_n cx dX6_writeVariant_118 rfl 2 rfl ?_
        refine v_bipush (v := 10) cx dX6_writeVariant_119 (by decide) ?_
        refine v_idiv cx dX6_writeVariant_121 (by decide) ?_
        refine v_istore_n (lv' := [(2, .int (x2 / 10)), (0, .ref q_t), (1, .int x1)]) cx dX6_writeVariant_122 rfl (by decide) rfl ?_
        refine v_goto (tgt := 102) cx dX6_writeVariant_123 (by decide) ?_
        refine v_lv (lv' := [(0, .ref q_t), (1, .int x1), (2, .int (x2 / 10))]) [1, 2, 0] rfl ?_
        exact ih _ h
set_option maxHeartbeats 4000000 in
set_option maxRecDepth 100000 in
theorem w_X6_writeVariant_126 {p : Program} {l : Launch} {e : Env} {s : State} {m : MethodId} {args : Array Value} {below : List Frame} {meth : Method} {c : Code} {Q9 : State → Prop} {mn : String} {Ts : List Cond} {D : va_G} {cy : Nat → ClassId} {g : gT} {A : Nat → Prop} (cx : vC p s m args meth c cX6_writeVariant 3 none RX6 mn Ts D cy g A) (q_t q_t_m q_t_saved q_t_text q_t_read q_t_counts q_t_scores q_t_isIn q_t_order q_t_row q_t_listing : Nat) {x1 : Int32} {t_savedCount : Int32} {t_textLength : Int32} {t_code : Int32} {t_at : Int32} {t_number : Int32} {t_ranked : Int32} {t_emptySide : Int32} {t_hash : Int64} {t_m : Nat → Int32} {N : Nat} {K157 : Int32 → Int32 → (Nat → Int32) → Prop} (hK157 : ∀ (x2 : Int32) (t_listingLength : Int32) (t_listing : Nat → Int32), K157 x2 t_listingLength t_listing → vV p l e rm_X6_writeVariant s m args below meth c Q9 3 D A 0 0 [(q_t, .inr (6, [.ref q_t_m, .ref q_t_saved, .int t_savedCount, .ref q_t_text, .int t_textLength, .int t_code, .int t_at, .ref q_t_read, .int t_number, .ref q_t_counts, .ref q_t_scores, .ref q_t_isIn, .ref q_t_order, .int t_ranked, .int t_emptySide, .ref q_t_row, .ref q_t_listing, .int t_listingLength, .long t_hash])), (q_t_m, .inl (cy 0, 378, .inl t_m)), (q_t_listing, .inl (cy 0, 800, .inl t_listing))] 157 [(0, .ref q_t), (1, .int x1), (2, .int x2)] []) : ∀ (n : Nat) (x2 : Int32) (t_listingLength : Int32) (t_listing : Nat → Int32), p_X6_writeVariant_126 N x1 t_savedCount t_textLength t_code t_at t_number t_ranked t_emptySide t_hash t_m K157 n x2 t_listingLength t_listing → vV p l e rm_X6_writeVariant s m args below meth c Q9 3 D A 0 0 [(q_t, .inr (6, [.ref q_t_m, .ref q_t_saved, .int t_savedCount, .ref q_t_text, .int t_textLength, .int t_code, .int t_at, .ref q_t_read, .int t_number, .ref q_t_counts, .ref q_t_scores, .ref q_t_isIn, .ref q_t_order, .int t_ranked, .int t_emptySide, .ref q_t_row, .ref q_t_listing, .int t_listingLength, .long t_hash])), (q_t_m, .inl (cy 0, 378, .inl t_m)), (q_t_listing, .inl (cy 0, 800, .inl t_listing))] 126 [(0, .ref q_t), (1, .int x1), (2, .int x2)] [] := by
  intro n
  induction n with
  | zero => intro x2 t_listingLength t_listing h; exact False.elim h
  | succ n ih =>
    intro x2 t_listingLength t_listing h
    unfold p_X6_writeVariant_126 at h
    refine v_iload_n cx dX6_writeVariant_126 rfl 2 rfl ?_
    refine v_if_le (tgt := 157) cx dX6_writeVariant_127 (by decide) h (fun h => ?_) (fun h => ?_)
    · refine v_lv (lv' := [(0, .ref q_t), (1, .int x1), (2, .int x2)]) [0, 1, 2] rfl ?_
      exact hK157 _ _ _ h
    · refine v_aload_n cx dX6_writeVariant_130 rfl 0 rfl ?_
      refine v_bipush (v := 48) cx dX6_writeVariant_131 (by decide) ?_
      refine v_aload_n cx dX6_writeVariant_133 rfl 0 rfl ?_
      refine v_iload_n cx dX6_writeVariant_134 rfl 1 rfl ?_
      refine v_bipush (v := 6) cx dX6_writeVariant_135 (by decide) ?_
      refine v_callVpi (As := [.int x1, .int 6]) cx (c_X6_of l g D cy q_t q_t_m q_t_saved q_t_text q_t_read q_t_counts q_t_scores q_t_isIn q_t_order q_t_row q_t_listing h) k_X6_118 (by decide) ⟨rfl, rfl⟩ (by decide) rfl rfl (Nat.le_of_ble_eq_true rfl) dX6_writeVariant_137 [0, 1] [2] (by decide) (vj_all 3 rfl (by decide +kernel)) rfl rfl rfl (q0 := 0) rfl rfl (fun r_32 h => ?_)
      refine v_iload_n cx dX6_writeVariant_140 rfl 2 rfl ?_
      refine v_idiv cx dX6_writeVariant_141 h.1 ?_
      have h := h.2
      refine v_bipush (v := 10) cx dX6_writeVariant_142 (by decide) ?_
      refine v_irem cx dX6_writeVariant_144 (by decide) ?_
      refine v_iadd cx dX6_writeVariant_145 ?_
      refine v_callV (As := [.int (48 + ((r_32 / x2) - (r_32 / x2) / 10 * 10))]) cx (c_X6_write l g D cy q_t q_t_m q_t_saved q_t_text q_t_read q_t_counts q_t_scores q_t_isIn q_t_order q_t_row q_t_listing h) k_X6_186 (by decide) (by decide) rfl rfl (Nat.le_of_ble_eq_true rfl) dX6_writeVariant_146 [0, 2] [1] (by decide) rfl rfl rfl (q0 := 0) rfl rfl (fun v9 w9 hp => ?_)
      obtain ⟨u_33, u_34, rfl, rfl, h⟩ := hp
      refine v_afterJ (ws' := [(q_t, .inr (6, [.ref q_t_m, .ref q_t_saved, .int t_savedCount, .ref q_t_text, .int t_textLength, .int t_code, .int t_at, .ref q_t_read, .int t_number, .ref q_t_counts, .ref q_t_scores, .ref q_t_isIn, .ref q_t_order, .int t_ranked, .int t_emptySide, .ref q_t_row, .ref q_t_listing, .int u_33, .long t_hash])), (q_t_m, .inl (cy 0, 378, .inl t_m)), (q_t_listing, .inl (cy 0, 800, .inl u_34))]) (st' := []) (ce := 0) (sl := 0) 3 [3, 1, 4] (by decide +kernel) (by decide +kernel) rfl rfl ⟨rfl, rfl⟩ ?_
      refine v_iload_n cx dX6_writeVariant_149 rfl 2 rfl ?_
      refine v_bipush (v := 10) cx dX6_writeVariant_150 (by decide) ?_
      refine v_idiv cx dX6_writeVariant_152 (by decide) ?_
      refine v_istore_n (lv' := [(2, .int (x2 / 10)), (0, .ref q_t), (1, .int x1)]) cx dX6_writeVariant_153 rfl (by decide) rfl ?_
      refine v_goto (tgt := 126) cx dX6_writeVariant_154 (by decide) ?_
      refine v_lv (lv' := [(0, .ref q_t), (1, .int x1), (2, .int (x2 / 10))]) [1, 2, 0] rfl ?_
      exact ih _ _ _ h
set_option maxHeartbeats 4000000 in
set_option maxRecDepth 100000 in
theorem c_X6_writeVariant (l : Launch) (g : gT) (D : va_G) (cy : Nat → ClassId) (q_t q_t_m q_t_saved q_t_text q_t_read q_t_counts q_t_scores q_t_isIn q_t_order q_t_row q_t_listing : Nat) {t_savedCount : Int32} {t_textLength : Int32} {t_code : Int32} {t_at : Int32} {t_number : Int32} {t_ranked : Int32} {t_emptySide : Int32} {t_listingLength : Int32} {t_hash : Int64} {t_m : Nat → Int32} {t_listing : Nat → Int32} {x1 : Int32} {N : Nat} {Q : Int32 → (Nat → Int32) → Prop} (h : p_X6_writeVariant N t_savedCount t_textLength t_code t_at t_number t_ranked t_emptySide t_listingLength t_hash t_m t_listing x1 Q) : UC l yX6_writeVariant cX6_writeVariant 3 none rm_X6_writeVariant g D cy [.ref q_t, .int x1] [(q_t, .inr (6, [.ref q_t_m, .ref q_t_saved, .int t_savedCount, .ref q_t_text, .int t_textLength, .int t_code, .int t_at, .ref q_t_read, .int t_number, .ref q_t_counts, .ref q_t_scores, .ref q_t_isIn, .ref q_t_order, .int t_ranked, .int t_emptySide, .ref q_t_row, .ref q_t_listing, .int t_listingLength, .long t_hash])), (q_t_m, .inl (cy 0, 378, .inl t_m)), (q_t_listing, .inl (cy 0, 800, .inl t_listing))] (fun v w => ∃ (t_listingLength' : Int32) (t_listing' : Nat → Int32), v = none ∧ w = [(q_t, .inr (6, [.ref q_t_m, .ref q_t_saved, .int t_savedCount, .ref q_t_text, .int t_textLength, .int t_code, .int t_at, .ref q_t_read, .int t_number, .ref q_t_counts, .ref q_t_scores, .ref q_t_isIn, .ref q_t_order, .int t_ranked, .int t_emptySide, .ref q_t_row, .ref q_t_listing, .int t_listingLength', .long t_hash])), (q_t_m, .inl (cy 0, 378, .inl t_m)), (q_t_listing, .inl (cy 0, 800, .inl t_listing'))] ∧ Q t_listingLength' t_listing') := by
  refine UC_of (by decide +kernel) (Nat.le_of_ble_eq_true rfl) [(0, .ref q_t), (1, .int x1)] rfl (fun p e s m args below meth c A cx => ?_)
  unfold p_X6_writeVariant at h
  refine v_aload_n cx dX6_writeVariant_0 rfl 0 rfl ?_
  refine v_aload_n cx dX6_writeVariant_1 rfl 0 rfl ?_
  refine v_iload_n cx dX6_writeVariant_2 rfl 1 rfl ?_
  refine v_iconst (v := 0) cx dX6_writeVariant_3 (by decide) ?_
  refine v_callVpi (As := [.int x1, .int 0]) cx (c_X6_of l g D cy q_t q_t_m q_t_saved q_t_text q_t_read q_t_counts q_t_scores q_t_isIn q_t_order q_t_row q_t_listing h) k_X6_118 (by decide) ⟨rfl, rfl⟩ (by decide) rfl rfl (Nat.le_of_ble_eq_true rfl) dX6_writeVariant_4 [0, 1] [2] (by decide) (vj_all 3 rfl (by decide +kernel)) rfl rfl rfl (q0 := 0) rfl rfl (fun r_1 h => ?_)
  refine v_callV (As := [.int r_1]) cx (c_X6_writeName l g D cy q_t q_t_m q_t_saved q_t_text q_t_read q_t_counts q_t_scores q_t_isIn q_t_order q_t_row q_t_listing h) k_X6_189 (by decide) (by decide) rfl rfl (Nat.le_of_ble_eq_true rfl) dX6_writeVariant_7 [0, 2] [1] (by decide) rfl rfl rfl (q0 := 0) rfl rfl (fun v9 w9 hp => ?_)
  obtain ⟨u_2, u_3, rfl, rfl, h⟩ := hp
  refine v_afterJ (ws' := [(q_t, .inr (6, [.ref q_t_m, .ref q_t_saved, .int t_savedCount, .ref q_t_text, .int t_textLength, .int t_code, .int t_at, .ref q_t_read, .int t_number, .ref q_t_counts, .ref q_t_scores, .ref q_t_isIn, .ref q_t_order, .int t_ranked, .int t_emptySide, .ref q_t_row, .ref q_t_listing, .int u_2, .long t_hash])), (q_t_m, .inl (cy 0, 378, .inl t_m)), (q_t_listing, .inl (cy 0, 800, .inl u_3))]) (st' := []) (ce := 0) (sl := 0) 3 [3, 1, 4] (by decide +kernel) (by decide +kernel) rfl rfl ⟨rfl, rfl⟩ ?_
  refine v_aload_n cx dX6_writeVariant_10 rfl 0 rfl ?_
  refine v_bipush (v := 47) cx dX6_writeVariant_11 (by decide) ?_
  refine v_callV (As := [.int 47]) cx (c_X6_write l g D cy q_t q_t_m q_t_saved q_t_text q_t_read q_t_counts q_t_scores q_t_isIn q_t_order q_t_row q_t_listing h) k_X6_186 (by decide) (by decide) rfl rfl (Nat.le_of_ble_eq_true rfl) dX6_writeVariant_13 [0, 2] [1] (by decide) rfl rfl rfl (q0 := 0) rfl rfl (fun v9 w9 hp => ?_)
  obtain ⟨u_4, u_5, rfl, rfl, h⟩ := hp
  refine v_afterJ (ws' := [(q_t, .inr (6, [.ref q_t_m, .ref q_t_saved, .int t_savedCount, .ref q_t_text, .int t_textLength, .int t_code, .int t_at, .ref q_t_read, .int t_number, .ref q_t_counts, .ref q_t_scores, .ref q_t_isIn, .ref q_t_order, .int t_ranked, .int t_emptySide, .ref q_t_row, .ref q_t_listing, .int u_4, .long t_hash])), (q_t_m, .inl (cy 0, 378, .inl t_m)), (q_t_listing, .inl (cy 0, 800, .inl u_5))]) (st' := []) (ce := 0) (sl := 0) 3 [3, 1, 4] (by decide +kernel) (by decide +kernel) rfl rfl ⟨rfl, rfl⟩ ?_
  refine v_aload_n cx dX6_writeVariant_16 rfl 0 rfl ?_
  refine v_aload_n cx dX6_writeVariant_17 rfl 0 rfl ?_
  refine v_iload_n cx dX6_writeVariant_18 rfl 1 rfl ?_
  refine v_iconst (v := 1) cx dX6_writeVariant_19 (by decide) ?_
  refine v_callVpi (As := [.int x1, .int 1]) cx (c_X6_of l g D cy q_t q_t_m q_t_saved q_t_text q_t_read q_t_counts q_t_scores q_t_isIn q_t_order q_t_row q_t_listing h) k_X6_118 (by decide) ⟨rfl, rfl⟩ (by decide) rfl rfl (Nat.le_of_ble_eq_true rfl) dX6_writeVariant_20 [0, 1] [2] (by decide) (vj_all 3 rfl (by decide +kernel)) rfl rfl rfl (q0 := 0) rfl rfl (fun r_6 h => ?_)
  refine v_callV (As := [.int r_6]) cx (c_X6_writeName l g D cy q_t q_t_m q_t_saved q_t_text q_t_read q_t_counts q_t_scores q_t_isIn q_t_order q_t_row q_t_listing h) k_X6_189 (by decide) (by decide) rfl rfl (Nat.le_of_ble_eq_true rfl) dX6_writeVariant_23 [0, 2] [1] (by decide) rfl rfl rfl (q0 := 0) rfl rfl (fun v9 w9 hp => ?_)
  obtain ⟨u_7, u_8, rfl, rfl, h⟩ := hp
  refine v_afterJ (ws' := [(q_t, .inr (6, [.ref q_t_m, .ref q_t_saved, .int t_savedCount, .ref q_t_text, .int t_textLength, .int t_code, .int t_at, .ref q_t_read, .int t_number, .ref q_t_counts, .ref q_t_scores, .ref q_t_isIn, .ref q_t_order, .int t_ranked, .int t_emptySide, .ref q_t_row, .ref q_t_listing, .int u_7, .long t_hash])), (q_t_m, .inl (cy 0, 378, .inl t_m)), (q_t_listing, .inl (cy 0, 800, .inl u_8))]) (st' := []) (ce := 0) (sl := 0) 3 [3, 1, 4] (by decide +kernel) (by decide +kernel) rfl rfl ⟨rfl, rfl⟩ ?_
  refine v_iconst (v := 0) cx dX6_writeVariant_26 (by decide) ?_
  refine v_istore_n (lv' := [(2, .int 0), (0, .ref q_t), (1, .int x1)]) cx dX6_writeVariant_27 rfl (by decide) rfl ?_
  refine v_lv (lv' := [(0, .ref q_t), (1, .int x1), (2, .int 0)]) [1, 2, 0] rfl ?_
  refine w_X6_writeVariant_28 cx q_t q_t_m q_t_saved q_t_text q_t_read q_t_counts q_t_scores q_t_isIn q_t_order q_t_row q_t_listing ?_ N _ _ _ h
  · intro x2_20 t_listingLength_21 t_listing_22 h
    refine v_aload_n cx dX6_writeVariant_77 rfl 0 rfl ?_
    refine v_bipush (v := 32) cx dX6_writeVariant_78 (by decide) ?_
    refine v_callV (As := [.int 32]) cx (c_X6_write l g D cy q_t q_t_m q_t_saved q_t_text q_t_read q_t_counts q_t_scores q_t_isIn q_t_order q_t_row q_t_listing h) k_X6_186 (by decide) (by decide) rfl rfl (Nat.le_of_ble_eq_true rfl) dX6_writeVariant_80 [0, 2] [1] (by decide) rfl rfl rfl (q0 := 0) rfl rfl (fun v9 w9 hp => ?_)
    obtain ⟨u_23, u_24, rfl, rfl, h⟩ := hp
    refine v_afterJ (ws' := [(q_t, .inr (6, [.ref q_t_m, .ref q_t_saved, .int t_savedCount, .ref q_t_text, .int t_textLength, .int t_code, .int t_at, .ref q_t_read, .int t_number, .ref q_t_counts, .ref q_t_scores, .ref q_t_isIn, .ref q_t_order, .int t_ranked, .int t_emptySide, .ref q_t_row, .ref q_t_listing, .int u_23, .long t_hash])), (q_t_m, .inl (cy 0, 378, .inl t_m)), (q_t_listing, .inl (cy 0, 800, .inl u_24))]) (st' := []) (ce := 0) (sl := 0) 3 [3, 1, 4] (by decide +kernel) (by decide +kernel) rfl rfl ⟨rfl, rfl⟩ ?_
    refine v_aload_n cx dX6_writeVariant_83 rfl 0 rfl ?_
    refine v_aload_n cx dX6_writeVariant_84 rfl 0 rfl ?_
    refine v_iload_n cx dX6_writeVariant_85 rfl 1 rfl ?_
    refine v_iconst (v := 5) cx dX6_writeVariant_86 (by decide) ?_
    refine v_callVpi (As := [.int x1, .int 5]) cx (c_X6_of l g D cy q_t q_t_m q_t_saved q_t_text q_t_read q_t_counts q_t_scores q_t_isIn q_t_order q_t_row q_t_listing h) k_X6_118 (by decide) ⟨rfl, rfl⟩ (by decide) rfl rfl (Nat.le_of_ble_eq_true rfl) dX6_writeVariant_87 [0, 1] [2] (by decide) (vj_all 3 rfl (by decide +kernel)) rfl rfl rfl (q0 := 0) rfl rfl (fun r_25 h => ?_)
    refine v_callV (As := [.int r_25]) cx (c_X6_writeName l g D cy q_t q_t_m q_t_saved q_t_text q_t_read q_t_counts q_t_scores q_t_isIn q_t_order q_t_row q_t_listing h) k_X6_189 (by decide) (by decide) rfl rfl (Nat.le_of_ble_eq_true rfl) dX6_writeVariant_90 [0, 2] [1] (by decide) rfl rfl rfl (q0 := 0) rfl rfl (fun v9 w9 hp => ?_)
    obtain ⟨u_26, u_27, rfl, rfl, h⟩ := hp
    refine v_afterJ (ws' := [(q_t, .inr (6, [.ref q_t_m, .ref q_t_saved, .int t_savedCount, .ref q_t_text, .int t_textLength, .int t_code, .int t_at, .ref q_t_read, .int t_number, .ref q_t_counts, .ref q_t_scores, .ref q_t_isIn, .ref q_t_order, .int t_ranked, .int t_emptySide, .ref q_t_row, .ref q_t_listing, .int u_26, .long t_hash])), (q_t_m, .inl (cy 0, 378, .inl t_m)), (q_t_listing, .inl (cy 0, 800, .inl u_27))]) (st' := []) (ce := 0) (sl := 0) 3 [3, 1, 4] (by decide +kernel) (by decide +kernel) rfl rfl ⟨rfl, rfl⟩ ?_
    refine v_aload_n cx dX6_writeVariant_93 rfl 0 rfl ?_
    refine v_bipush (v := 32) cx dX6_writeVariant_94 (by decide) ?_
    refine v_callV (As := [.int 32]) cx (c_X6_write l g D cy q_t q_t_m q_t_saved q_t_text q_t_read q_t_counts q_t_scores q_t_isIn q_t_order q_t_row q_t_listing h) k_X6_186 (by decide) (by decide) rfl rfl (Nat.le_of_ble_eq_true rfl) dX6_writeVariant_96 [0, 2] [1] (by decide) rfl rfl rfl (q0 := 0) rfl rfl (fun v9 w9 hp => ?_)
    obtain ⟨u_28, u_29, rfl, rfl, h⟩ := hp
    refine v_afterJ (ws' := [(q_t, .inr (6, [.ref q_t_m, .ref q_t_saved, .int t_savedCount, .ref q_t_text, .int t_textLength, .int t_code, .int t_at, .ref q_t_read, .int t_number, .ref q_t_counts, .ref q_t_scores, .ref q_t_isIn, .ref q_t_order, .int t_ranked, .int t_emptySide, .ref q_t_row, .ref q_t_listing, .int u_28, .long t_hash])), (q_t_m, .inl (cy 0, 378, .inl t_m)), (q_t_listing, .inl (cy 0, 800, .inl u_29))]) (st' := []) (ce := 0) (sl := 0) 3 [3, 1, 4] (by decide +kernel) (by decide +kernel) rfl rfl ⟨rfl, rfl⟩ ?_
    refine v_ldc cx dX6_writeVariant_99 wK_X6_192 ?_
    refine v_istore_n (lv' := [(2, .int 100000), (0, .ref q_t), (1, .int x1)]) cx dX6_writeVariant_101 rfl (by decide) rfl ?_
    refine v_lv (lv' := [(0, .ref q_t), (1, .int x1), (2, .int 100000)]) [1, 2, 0] rfl ?_
    refine w_X6_writeVariant_102 cx q_t q_t_m q_t_saved q_t_text q_t_read q_t_counts q_t_scores q_t_isIn q_t_order q_t_row q_t_listing ?_ N _ h
    · intro x2_31 h
      refine v_lv (lv' := [(0, .ref q_t), (1, .int x1), (2, .int x2_31)]) [0, 1, 2] rfl ?_
      refine w_X6_writeVariant_126 cx q_t q_t_m q_t_saved q_t_text q_t_read q_t_counts q_t_scores q_t_isIn q_t_order q_t_row q_t_listing ?_ N _ _ _ h
      · intro x2_35 t_listingLength_36 t_listing_37 h
        exact v_return cx dX6_writeVariant_157 ⟨_, _, rfl, rfl, h⟩
abbrev rm_X6_writeListing : Room := { frames := 3, cells := 0, slots := 0, locals := 67 }
set_option maxHeartbeats 4000000 in
set_option maxRecDepth 100000 in
theorem w_X6_writeListing_11 {p : Program} {l : Launch} {e : Env} {s : State} {m : MethodId} {args : Array Value} {below : List Frame} {meth : Method} {c : Code} {Q9 : State → Prop} {mn : String} {Ts : List Cond} {D : va_G} {cy : Nat → ClassId} {g : gT} {A : Nat → Prop} (cx : vC p s m args meth c cX6_writeListing 2 none RX6 mn Ts D cy g A) (q_t q_t_m q_t_saved q_t_text q_t_read q_t_counts q_t_scores q_t_isIn q_t_order q_t_row q_t_listing : Nat) {t_savedCount : Int32} {t_textLength : Int32} {t_code : Int32} {t_at : Int32} {t_number : Int32} {t_ranked : Int32} {t_emptySide : Int32} {t_hash : Int64} {t_m : Nat → Int32} {t_row : Nat → Int32} {N : Nat} {K53 : Int32 → Int32 → (Nat → Int32) → Prop} (hK53 : ∀ (x1 : Int32) (t_listingLength : Int32) (t_listing : Nat → Int32), K53 x1 t_listingLength t_listing → vV p l e rm_X6_writeListing s m args below meth c Q9 2 D A 0 0 [(q_t, .inr (6, [.ref q_t_m, .ref q_t_saved, .int t_savedCount, .ref q_t_text, .int t_textLength, .int t_code, .int t_at, .ref q_t_read, .int t_number, .ref q_t_counts, .ref q_t_scores, .ref q_t_isIn, .ref q_t_order, .int t_ranked, .int t_emptySide, .ref q_t_row, .ref q_t_listing, .int t_listingLength, .long t_hash])), (q_t_m, .inl (cy 0, 378, .inl t_m)), (q_t_row, .inl (cy 0, 16, .inl t_row)), (q_t_listing, .inl (cy 0, 800, .inl t_listing))] 53 [(0, .ref q_t), (1, .int x1)] []) : ∀ (n : Nat) (x1 : Int32) (t_listingLength : Int32) (t_listing : Nat → Int32), p_X6_writeListing_11 N t_savedCount t_textLength t_code t_at t_number t_ranked t_emptySide t_hash t_m t_row K53 n x1 t_listingLength t_listing → vV p l e rm_X6_writeListing s m args below meth c Q9 2 D A 0 0 [(q_t, .inr (6, [.ref q_t_m, .ref q_t_saved, .int t_savedCount, .ref q_t_text, .int t_textLength, .int t_code, .int t_at, .ref q_t_read, .int t_number, .ref q_t_counts, .ref q_t_scores, .ref q_t_isIn, .ref q_t_order, .int t_ranked, .int t_emptySide, .ref q_t_row, .ref q_t_listing, .int t_listingLength, .long t_hash])), (q_t_m, .inl (cy 0, 378, .inl t_m)), (q_t_row, .inl (cy 0, 16, .inl t_row)), (q_t_listing, .inl (cy 0, 800, .inl t_listing))] 11 [(0, .ref q_t), (1, .int x1)] [] := by
  intro n
  induction n with
  | zero => intro x1 t_listingLength t_listing h; exact False.elim h
  | succ n ih =>
    intro x1 t_listingLength t_listing h
    unfold p_X6_writeListing_11 at h
    refine v_iload_n cx dX6_writeListing_11 rfl 1 rfl ?_
    refine v_aload_n cx dX6_writeListing_12 rfl 0 rfl ?_
    refine g_X6_7 cx dX6_writeListing_13 0 rfl rfl ?_
    refine v_iconst (v := 0) cx dX6_writeListing_16 (by decide) ?_
    refine v_iald cx dX6_writeListing_17 1 rfl ⟨by unfold vp_in; decide, h⟩ (fun h => ?_)
    refine v_icmp_ge (tgt := 53) cx dX6_writeListing_18 (by decide) h (fun h => ?_) (fun h => ?_)
    · refine v_lv (lv' := [(0, .ref q_t), (1, .int x1)]) [0, 1] rfl ?_
      exact hK53 _ _ _ h
    · refine v_iload_n cx dX6_writeListing_21 rfl 1 rfl ?_
      refine v_if_le (tgt := 37) cx dX6_writeListing_22 (by decide) h (fun h => ?_) (fun h => ?_)
      · refine v_aload_n cx dX6_writeListing_37 rfl 0 rfl ?_
        refine v_aload_n cx dX6_writeListing_38 rfl 0 rfl ?_
        refine g_X6_39 cx dX6_writeListing_39 0 rfl rfl ?_
        refine v_iload_n cx dX6_writeListing_42 rfl 1 rfl ?_
        refine v_iald cx dX6_writeListing_43 2 rfl h (fun h => ?_)
        refine v_callV (As := [.int (t_row x1.toNatClampNeg)]) cx (c_X6_writeVariant l g D cy q_t q_t_m q_t_saved q_t_text q_t_read q_t_counts q_t_scores q_t_isIn q_t_order q_t_row q_t_listing h) k_X6_196 (by decide) (by decide) rfl rfl (Nat.le_of_ble_eq_true rfl) dX6_writeListing_44 [0, 1, 3] [2] (by decide) rfl rfl rfl (q0 := 0) rfl rfl (fun v9 w9 hp => ?_)
        obtain ⟨u_2, u_3, rfl, rfl, h⟩ := hp
        refine v_afterJ (ws' := [(q_t, .inr (6, [.ref q_t_m, .ref q_t_saved, .int t_savedCount, .ref q_t_text, .int t_textLength, .int t_code, .int t_at, .ref q_t_read, .int t_number, .ref q_t_counts, .ref q_t_scores, .ref q_t_isIn, .ref q_t_order, .int t_ranked, .int t_emptySide, .ref q_t_row, .ref q_t_listing, .int u_2, .long t_hash])), (q_t_m, .inl (cy 0, 378, .inl t_m)), (q_t_row, .inl (cy 0, 16, .inl t_row)), (q_t_listing, .inl (cy 0, 800, .inl u_3))]) (st' := []) (ce := 0) (sl := 0) 4 [4, 5, 2, 6] (by decide +kernel) (by decide +kernel) rfl rfl ⟨rfl, rfl⟩ ?_
        refine v_iinc (v := x1 + 1) (k0 := 1) (lv' := [(1, .int (x1 + 1)), (0, .ref q_t)]) cx dX6_writeListing_47 rfl rfl (by decide) rfl ?_
        refine v_goto (tgt := 11) cx dX6_writeListing_50 (by decide) ?_
        refine v_lv (lv' := [(0, .ref q_t), (1, .int (x1 + 1))]) [1, 0] rfl ?_
        exact ih _ _ _ h
      · refine v_aload_n cx dX6_writeListing_25 rfl 0 rfl ?_
        refine v_bipush (v := 44) cx dX6_writeListing_26 (by decide) ?_
        refine v_callV (As := [.int 44]) cx (c_X6_write l g D cy q_t q_t_m q_t_saved q_t_text q_t_read q_t_counts q_t_scores q_t_isIn q_t_order q_t_row q_t_listing h) k_X6_186 (by decide) (by decide) rfl rfl (Nat.le_of_ble_eq_true rfl) dX6_writeListing_28 [0, 3] [1, 2] (by decide) rfl rfl rfl (q0 := 0) rfl rfl (fun v9 w9 hp => ?_)
        obtain ⟨u_4, u_5, rfl, rfl, h⟩ := hp
        refine v_afterJ (ws' := [(q_t, .inr (6, [.ref q_t_m, .ref q_t_saved, .int t_savedCount, .ref q_t_text, .int t_textLength, .int t_code, .int t_at, .ref q_t_read, .int t_number, .ref q_t_counts, .ref q_t_scores, .ref q_t_isIn, .ref q_t_order, .int t_ranked, .int t_emptySide, .ref q_t_row, .ref q_t_listing, .int u_4, .long t_hash])), (q_t_m, .inl (cy 0, 378, .inl t_m)), (q_t_row, .inl (cy 0, 16, .inl t_row)), (q_t_listing, .inl (cy 0, 800, .inl u_5))]) (st' := []) (ce := 0) (sl := 0) 4 [4, 1, 2, 5] (by decide +kernel) (by decide +kernel) rfl rfl ⟨rfl, rfl⟩ ?_
        refine v_aload_n cx dX6_writeListing_31 rfl 0 rfl ?_
        refine v_bipush (v := 32) cx dX6_writeListing_32 (by decide) ?_
        refine v_callV (As := [.int 32]) cx (c_X6_write l g D cy q_t q_t_m q_t_saved q_t_text q_t_read q_t_counts q_t_scores q_t_isIn q_t_order q_t_row q_t_listing h) k_X6_186 (by decide) (by decide) rfl rfl (Nat.le_of_ble_eq_true rfl) dX6_writeListing_34 [0, 3] [1, 2] (by decide) rfl rfl rfl (q0 := 0) rfl rfl (fun v9 w9 hp => ?_)
        obtain ⟨u_6, u_7, rfl, rfl, h⟩ := hp
        refine v_afterJ (ws' := [(q_t, .inr (6, [.ref q_t_m, .ref q_t_saved, .int t_savedCount, .ref q_t_text, .int t_textLength, .int t_code, .int t_at, .ref q_t_read, .int t_number, .ref q_t_counts, .ref q_t_scores, .ref q_t_isIn, .ref q_t_order, .int t_ranked, .int t_emptySide, .ref q_t_row, .ref q_t_listing, .int u_6, .long t_hash])), (q_t_m, .inl (cy 0, 378, .inl t_m)), (q_t_row, .inl (cy 0, 16, .inl t_row)), (q_t_listing, .inl (cy 0, 800, .inl u_7))]) (st' := []) (ce := 0) (sl := 0) 4 [4, 1, 2, 5] (by decide +kernel) (by decide +kernel) rfl rfl ⟨rfl, rfl⟩ ?_
        refine v_aload_n cx dX6_writeListing_37 rfl 0 rfl ?_
        refine v_aload_n cx dX6_writeListing_38 rfl 0 rfl ?_
        refine g_X6_39 cx dX6_writeListing_39 0 rfl rfl ?_
        refine v_iload_n cx dX6_writeListing_42 rfl 1 rfl ?_
        refine v_iald cx dX6_writeListing_43 2 rfl h (fun h => ?_)
        refine v_callV (As := [.int (t_row x1.toNatClampNeg)]) cx (c_X6_writeVariant l g D cy q_t q_t_m q_t_saved q_t_text q_t_read q_t_counts q_t_scores q_t_isIn q_t_order q_t_row q_t_listing h) k_X6_196 (by decide) (by decide) rfl rfl (Nat.le_of_ble_eq_true rfl) dX6_writeListing_44 [0, 1, 3] [2] (by decide) rfl rfl rfl (q0 := 0) rfl rfl (fun v9 w9 hp => ?_)
        obtain ⟨u_8, u_9, rfl, rfl, h⟩ := hp
        refine v_afterJ (ws' := [(q_t, .inr (6, [.ref q_t_m, .ref q_t_saved, .int t_savedCount, .ref q_t_text, .int t_textLength, .int t_code, .int t_at, .ref q_t_read, .int t_number, .ref q_t_counts, .ref q_t_scores, .ref q_t_isIn, .ref q_t_order, .int t_ranked, .int t_emptySide, .ref q_t_row, .ref q_t_listing, .int u_8, .long t_hash])), (q_t_m, .inl (cy 0, 378, .inl t_m)), (q_t_row, .inl (cy 0, 16, .inl t_row)), (q_t_listing, .inl (cy 0, 800, .inl u_9))]) (st' := []) (ce := 0) (sl := 0) 4 [4, 5, 2, 6] (by decide +kernel) (by decide +kernel) rfl rfl ⟨rfl, rfl⟩ ?_
        refine v_iinc (v := x1 + 1) (k0 := 1) (lv' := [(1, .int (x1 + 1)), (0, .ref q_t)]) cx dX6_writeListing_47 rfl rfl (by decide) rfl ?_
        refine v_goto (tgt := 11) cx dX6_writeListing_50 (by decide) ?_
        refine v_lv (lv' := [(0, .ref q_t), (1, .int (x1 + 1))]) [1, 0] rfl ?_
        exact ih _ _ _ h
set_option maxHeartbeats 4000000 in
set_option maxRecDepth 100000 in
theorem c_X6_writeListing (l : Launch) (g : gT) (D : va_G) (cy : Nat → ClassId) (q_t q_t_m q_t_saved q_t_text q_t_read q_t_counts q_t_scores q_t_isIn q_t_order q_t_row q_t_listing : Nat) {t_savedCount : Int32} {t_textLength : Int32} {t_code : Int32} {t_at : Int32} {t_number : Int32} {t_ranked : Int32} {t_emptySide : Int32} {t_listingLength : Int32} {t_hash : Int64} {t_m : Nat → Int32} {t_row : Nat → Int32} {t_listing : Nat → Int32} {N : Nat} {Q : Int32 → (Nat → Int32) → (Nat → Int32) → Prop} (h : p_X6_writeListing N t_savedCount t_textLength t_code t_at t_number t_ranked t_emptySide t_listingLength t_hash t_m t_row t_listing Q) : UC l yX6_writeListing cX6_writeListing 2 none rm_X6_writeListing g D cy [.ref q_t] [(q_t, .inr (6, [.ref q_t_m, .ref q_t_saved, .int t_savedCount, .ref q_t_text, .int t_textLength, .int t_code, .int t_at, .ref q_t_read, .int t_number, .ref q_t_counts, .ref q_t_scores, .ref q_t_isIn, .ref q_t_order, .int t_ranked, .int t_emptySide, .ref q_t_row, .ref q_t_listing, .int t_listingLength, .long t_hash])), (q_t_m, .inl (cy 0, 378, .inl t_m)), (q_t_row, .inl (cy 0, 16, .inl t_row)), (q_t_listing, .inl (cy 0, 800, .inl t_listing))] (fun v w => ∃ (t_listingLength' : Int32) (t_row' : Nat → Int32) (t_listing' : Nat → Int32), v = none ∧ w = [(q_t, .inr (6, [.ref q_t_m, .ref q_t_saved, .int t_savedCount, .ref q_t_text, .int t_textLength, .int t_code, .int t_at, .ref q_t_read, .int t_number, .ref q_t_counts, .ref q_t_scores, .ref q_t_isIn, .ref q_t_order, .int t_ranked, .int t_emptySide, .ref q_t_row, .ref q_t_listing, .int t_listingLength', .long t_hash])), (q_t_m, .inl (cy 0, 378, .inl t_m)), (q_t_row, .inl (cy 0, 16, .inl t_row')), (q_t_listing, .inl (cy 0, 800, .inl t_listing'))] ∧ Q t_listingLength' t_row' t_listing') := by
  refine UC_of (by decide +kernel) (Nat.le_of_ble_eq_true rfl) [(0, .ref q_t)] rfl (fun p e s m args below meth c A cx => ?_)
  unfold p_X6_writeListing at h
  refine v_aload_n cx dX6_writeListing_0 rfl 0 rfl ?_
  refine v_callV (As := []) cx (c_X6_list l g D cy q_t q_t_m q_t_saved q_t_text q_t_read q_t_counts q_t_scores q_t_isIn q_t_order q_t_row q_t_listing h) k_X6_193 (by decide) (by decide) rfl rfl (Nat.le_of_ble_eq_true rfl) dX6_writeListing_1 [0, 1, 2] [3] (by decide) rfl rfl rfl (q0 := 0) rfl rfl (fun v9 w9 hp => ?_)
  obtain ⟨u_1, rfl, rfl, h⟩ := hp
  refine v_afterJ (ws' := [(q_t, .inr (6, [.ref q_t_m, .ref q_t_saved, .int t_savedCount, .ref q_t_text, .int t_textLength, .int t_code, .int t_at, .ref q_t_read, .int t_number, .ref q_t_counts, .ref q_t_scores, .ref q_t_isIn, .ref q_t_order, .int t_ranked, .int t_emptySide, .ref q_t_row, .ref q_t_listing, .int t_listingLength, .long t_hash])), (q_t_m, .inl (cy 0, 378, .inl t_m)), (q_t_row, .inl (cy 0, 16, .inl u_1)), (q_t_listing, .inl (cy 0, 800, .inl t_listing))]) (st' := []) (ce := 0) (sl := 0) 4 [4, 5, 6, 3] (by decide +kernel) (by decide +kernel) rfl rfl ⟨rfl, rfl⟩ ?_
  refine v_aload_n cx dX6_writeListing_4 rfl 0 rfl ?_
  refine v_iconst (v := 0) cx dX6_writeListing_5 (by decide) ?_
  refine p_X6_183 (ws' := [(q_t, .inr (6, [.ref q_t_m, .ref q_t_saved, .int t_savedCount, .ref q_t_text, .int t_textLength, .int t_code, .int t_at, .ref q_t_read, .int t_number, .ref q_t_counts, .ref q_t_scores, .ref q_t_isIn, .ref q_t_order, .int t_ranked, .int t_emptySide, .ref q_t_row, .ref q_t_listing, .int 0, .long t_hash])), (q_t_m, .inl (cy 0, 378, .inl t_m)), (q_t_row, .inl (cy 0, 16, .inl u_1)), (q_t_listing, .inl (cy 0, 800, .inl t_listing))]) cx dX6_writeListing_6 0 rfl rfl rfl (Nat.le_of_ble_eq_true rfl) rfl ?_
  refine v_iconst (v := 0) cx dX6_writeListing_9 (by decide) ?_
  refine v_istore_n (lv' := [(1, .int 0), (0, .ref q_t)]) cx dX6_writeListing_10 rfl (by decide) rfl ?_
  refine v_lv (lv' := [(0, .ref q_t), (1, .int 0)]) [1, 0] rfl ?_
  refine w_X6_writeListing_11 cx q_t q_t_m q_t_saved q_t_text q_t_read q_t_counts q_t_scores q_t_isIn q_t_order q_t_row q_t_listing ?_ N _ _ _ h
  · intro x1_10 t_listingLength_11 t_listing_12 h
    exact v_return cx dX6_writeListing_53 ⟨_, _, _, rfl, rfl, h⟩
abbrev rm_X6_reason : Room := { frames := 2, cells := 0, slots := 0, locals := 47 }
set_option maxHeartbeats 4000000 in
set_option maxRecDepth 100000 in
theorem w_X6_reason_13 {p : Program} {l : Launch} {e : Env} {s : State} {m : MethodId} {args : Array Value} {below : List Frame} {meth : Method} {c : Code} {Q9 : State → Prop} {mn : String} {Ts : List Cond} {D : va_G} {cy : Nat → ClassId} {g : gT} {A : Nat → Prop} (cx : vC p s m args meth c cX6_reason 3 (some .int) RX6 mn Ts D cy g A) (q_t q_t_m q_t_saved q_t_text q_t_read q_t_counts q_t_scores q_t_isIn q_t_order q_t_row q_t_listing : Nat) {x1 : Int32} {t_savedCount : Int32} {t_textLength : Int32} {t_code : Int32} {t_at : Int32} {t_number : Int32} {t_ranked : Int32} {t_emptySide : Int32} {t_listingLength : Int32} {t_hash : Int64} {t_scores : Nat → Int32} {t_counts : Nat → Int32} {t_m : Nat → Int32} {N : Nat} {K28 : Int32 → Prop} {K38 : Int32 → Prop} (hK28 : ∀ (x2 : Int32), K28 x2 → vV p l e rm_X6_reason s m args below meth c Q9 3 D A 0 0 [(q_t, .inr (6, [.ref q_t_m, .ref q_t_saved, .int t_savedCount, .ref q_t_text, .int t_textLength, .int t_code, .int t_at, .ref q_t_read, .int t_number, .ref q_t_counts, .ref q_t_scores, .ref q_t_isIn, .ref q_t_order, .int t_ranked, .int t_emptySide, .ref q_t_row, .ref q_t_listing, .int t_listingLength, .long t_hash])), (q_t_scores, .inl (cy 0, 16, .inl t_scores)), (q_t_counts, .inl (cy 0, 96, .inl t_counts)), (q_t_m, .inl (cy 0, 378, .inl t_m))] 28 [(0, .ref q_t), (1, .int x1), (2, .int x2)] []) (hK38 : ∀ (x2 : Int32), K38 x2 → vV p l e rm_X6_reason s m args below meth c Q9 3 D A 0 0 [(q_t, .inr (6, [.ref q_t_m, .ref q_t_saved, .int t_savedCount, .ref q_t_text, .int t_textLength, .int t_code, .int t_at, .ref q_t_read, .int t_number, .ref q_t_counts, .ref q_t_scores, .ref q_t_isIn, .ref q_t_order, .int t_ranked, .int t_emptySide, .ref q_t_row, .ref q_t_listing, .int t_listingLength, .long t_hash])), (q_t_scores, .inl (cy 0, 16, .inl t_scores)), (q_t_counts, .inl (cy 0, 96, .inl t_counts)), (q_t_m, .inl (cy 0, 378, .inl t_m))] 38 [(0, .ref q_t), (1, .int x1), (2, .int x2)] []) : ∀ (n : Nat) (x2 : Int32), p_X6_reason_13 N x1 t_savedCount t_textLength t_code t_at t_number t_ranked t_emptySide t_listingLength t_hash t_scores t_counts t_m K28 K38 n x2 → vV p l e rm_X6_reason s m args below meth c Q9 3 D A 0 0 [(q_t, .inr (6, [.ref q_t_m, .ref q_t_saved, .int t_savedCount, .ref q_t_text, .int t_textLength, .int t_code, .int t_at, .ref q_t_read, .int t_number, .ref q_t_counts, .ref q_t_scores, .ref q_t_isIn, .ref q_t_order, .int t_ranked, .int t_emptySide, .ref q_t_row, .ref q_t_listing, .int t_listingLength, .long t_hash])), (q_t_scores, .inl (cy 0, 16, .inl t_scores)), (q_t_counts, .inl (cy 0, 96, .inl t_counts)), (q_t_m, .inl (cy 0, 378, .inl t_m))] 13 [(0, .ref q_t), (1, .int x1), (2, .int x2)] [] := by
  intro n
  induction n with
  | zero => intro x2 h; exact False.elim h
  | succ n ih =>
    intro x2 h
    unfold p_X6_reason_13 at h
    refine v_iload_n cx dX6_reason_13 rfl 2 rfl ?_
    refine v_bipush (v := 6) cx dX6_reason_14 (by decide) ?_
    refine v_icmp_ge (tgt := 38) cx dX6_reason_16 (by decide) h (fun h => ?_) (fun h => ?_)
    · refine v_lv (lv' := [(0, .ref q_t), (1, .int x1), (2, .int x2)]) [0, 1, 2] rfl ?_
      exact hK38 _ h
    · refine v_aload_n cx dX6_reason_19 rfl 0 rfl ?_
      refine v_iload_n cx dX6_reason_20 rfl 2 rfl ?_
      refine v_iload_n cx dX6_reason_21 rfl 1 rfl ?_
      refine v_callVpi (As := [.int x2, .int x1]) cx (c_X6_weightIn l g D cy q_t q_t_m q_t_saved q_t_text q_t_read q_t_counts q_t_scores q_t_isIn q_t_order q_t_row q_t_listing h) k_X6_155 (by decide) ⟨rfl, rfl⟩ (by decide) rfl rfl (Nat.le_of_ble_eq_true rfl) dX6_reason_22 [0, 2, 3] [1] (by decide) (vj_all 4 rfl (by decide +kernel)) rfl rfl rfl (q0 := 0) rfl rfl (fun r_1 h => ?_)
      refine v_if_ne (tgt := 32) cx dX6_reason_25 (by decide) h (fun h => ?_) (fun h => ?_)
      · refine v_iinc (v := x2 + 1) (k0 := 2) (lv' := [(2, .int (x2 + 1)), (0, .ref q_t), (1, .int x1)]) cx dX6_reason_32 rfl rfl (by decide) rfl ?_
        refine v_goto (tgt := 13) cx dX6_reason_35 (by decide) ?_
        refine v_lv (lv' := [(0, .ref q_t), (1, .int x1), (2, .int (x2 + 1))]) [1, 2, 0] rfl ?_
        exact ih _ h
      · refine v_lv (lv' := [(0, .ref q_t), (1, .int x1), (2, .int x2)]) [0, 1, 2] rfl ?_
        exact hK28 _ h
set_option maxHeartbeats 4000000 in
set_option maxRecDepth 100000 in
theorem c_X6_reason (l : Launch) (g : gT) (D : va_G) (cy : Nat → ClassId) (q_t q_t_m q_t_saved q_t_text q_t_read q_t_counts q_t_scores q_t_isIn q_t_order q_t_row q_t_listing : Nat) {t_savedCount : Int32} {t_textLength : Int32} {t_code : Int32} {t_at : Int32} {t_number : Int32} {t_ranked : Int32} {t_emptySide : Int32} {t_listingLength : Int32} {t_hash : Int64} {t_scores : Nat → Int32} {t_counts : Nat → Int32} {t_m : Nat → Int32} {x1 : Int32} {N : Nat} {Q : Int32 → Prop} (h : p_X6_reason N t_savedCount t_textLength t_code t_at t_number t_ranked t_emptySide t_listingLength t_hash t_scores t_counts t_m x1 Q) : UC l yX6_reason cX6_reason 3 (some .int) rm_X6_reason g D cy [.ref q_t, .int x1] [(q_t, .inr (6, [.ref q_t_m, .ref q_t_saved, .int t_savedCount, .ref q_t_text, .int t_textLength, .int t_code, .int t_at, .ref q_t_read, .int t_number, .ref q_t_counts, .ref q_t_scores, .ref q_t_isIn, .ref q_t_order, .int t_ranked, .int t_emptySide, .ref q_t_row, .ref q_t_listing, .int t_listingLength, .long t_hash])), (q_t_scores, .inl (cy 0, 16, .inl t_scores)), (q_t_counts, .inl (cy 0, 96, .inl t_counts)), (q_t_m, .inl (cy 0, 378, .inl t_m))] (fun v w => w = [(q_t, .inr (6, [.ref q_t_m, .ref q_t_saved, .int t_savedCount, .ref q_t_text, .int t_textLength, .int t_code, .int t_at, .ref q_t_read, .int t_number, .ref q_t_counts, .ref q_t_scores, .ref q_t_isIn, .ref q_t_order, .int t_ranked, .int t_emptySide, .ref q_t_row, .ref q_t_listing, .int t_listingLength, .long t_hash])), (q_t_scores, .inl (cy 0, 16, .inl t_scores)), (q_t_counts, .inl (cy 0, 96, .inl t_counts)), (q_t_m, .inl (cy 0, 378, .inl t_m))] ∧ ∃ r : Int32, v = some (.int r) ∧ Q r) := by
  refine UC_of (by decide +kernel) (Nat.le_of_ble_eq_true rfl) [(0, .ref q_t), (1, .int x1)] rfl (fun p e s m args below meth c A cx => ?_)
  unfold p_X6_reason at h
  refine v_aload_n cx dX6_reason_0 rfl 0 rfl ?_
  refine g_X6_25 cx dX6_reason_1 0 rfl rfl ?_
  refine v_iload_n cx dX6_reason_4 rfl 1 rfl ?_
  refine v_iald cx dX6_reason_5 1 rfl h (fun h => ?_)
  refine v_if_le (tgt := 11) cx dX6_reason_6 (by decide) h (fun h => ?_) (fun h => ?_)
  · refine v_iconst (v := 0) cx dX6_reason_11 (by decide) ?_
    refine v_istore_n (lv' := [(2, .int 0), (0, .ref q_t), (1, .int x1)]) cx dX6_reason_12 rfl (by decide) rfl ?_
    refine v_lv (lv' := [(0, .ref q_t), (1, .int x1), (2, .int 0)]) [1, 2, 0] rfl ?_
    refine w_X6_reason_13 cx q_t q_t_m q_t_saved q_t_text q_t_read q_t_counts q_t_scores q_t_isIn q_t_order q_t_row q_t_listing ?_ ?_ N _ h
    · intro x2_2 h
      refine v_iconst (v := 1) cx dX6_reason_28 (by decide) ?_
      refine v_iload_n cx dX6_reason_29 rfl 2 rfl ?_
      refine v_iadd cx dX6_reason_30 ?_
      exact v_ireturn cx rfl dX6_reason_31 ⟨rfl, _, rfl, h⟩
    · intro x2_3 h
      refine v_aload_n cx dX6_reason_38 rfl 0 rfl ?_
      refine v_iload_n cx dX6_reason_39 rfl 1 rfl ?_
      refine v_bipush (v := 7) cx dX6_reason_40 (by decide) ?_
      refine v_callVpi (As := [.int x1, .int 7]) cx (c_X6_of l g D cy q_t q_t_m q_t_saved q_t_text q_t_read q_t_counts q_t_scores q_t_isIn q_t_order q_t_row q_t_listing h) k_X6_118 (by decide) ⟨rfl, rfl⟩ (by decide) rfl rfl (Nat.le_of_ble_eq_true rfl) dX6_reason_42 [0, 3] [1, 2] (by decide) (vj_all 4 rfl (by decide +kernel)) rfl rfl rfl (q0 := 0) rfl rfl (fun r_4 h => ?_)
      refine v_if_ne (tgt := 53) cx dX6_reason_45 (by decide) h (fun h => ?_) (fun h => ?_)
      · refine v_bipush (v := 8) cx dX6_reason_53 (by decide) ?_
        exact v_ireturn cx rfl dX6_reason_55 ⟨rfl, _, rfl, h⟩
      · refine v_bipush (v := 7) cx dX6_reason_48 (by decide) ?_
        refine v_goto (tgt := 55) cx dX6_reason_50 (by decide) ?_
        exact v_ireturn cx rfl dX6_reason_55 ⟨rfl, _, rfl, h⟩
  · refine v_iconst (v := 0) cx dX6_reason_9 (by decide) ?_
    exact v_ireturn cx rfl dX6_reason_10 ⟨rfl, _, rfl, h⟩
abbrev rm_X6_placeIn : Room := { frames := 0, cells := 0, slots := 0, locals := 0 }
set_option maxHeartbeats 4000000 in
set_option maxRecDepth 100000 in
theorem w_X6_placeIn_5 {p : Program} {l : Launch} {e : Env} {s : State} {m : MethodId} {args : Array Value} {below : List Frame} {meth : Method} {c : Code} {Q9 : State → Prop} {mn : String} {Ts : List Cond} {D : va_G} {cy : Nat → ClassId} {g : gT} {A : Nat → Prop} (cx : vC p s m args meth c cX6_placeIn 5 (some .int) RX6 mn Ts D cy g A) (q_p0 : Nat) {x1 : Int32} {x2 : Int32} {p0 : Nat → Int32} {N : Nat} {K32 : Int32 → Int32 → Prop} (hK32 : ∀ (x3 : Int32) (x4 : Int32), K32 x3 x4 → vV p l e rm_X6_placeIn s m args below meth c Q9 5 D A 0 0 [(q_p0, .inl (cy 0, 16, .inl p0))] 32 [(0, .ref q_p0), (1, .int x1), (2, .int x2), (3, .int x3), (4, .int x4)] []) : ∀ (n : Nat) (x3 : Int32) (x4 : Int32), p_X6_placeIn_5 N x1 x2 p0 K32 n x3 x4 → vV p l e rm_X6_placeIn s m args below meth c Q9 5 D A 0 0 [(q_p0, .inl (cy 0, 16, .inl p0))] 5 [(0, .ref q_p0), (1, .int x1), (2, .int x2), (3, .int x3), (4, .int x4)] [] := by
  intro n
  induction n with
  | zero => intro x3 x4 h; exact False.elim h
  | succ n ih =>
    intro x3 x4 h
    unfold p_X6_placeIn_5 at h
    refine v_iload cx dX6_placeIn_5 4 rfl ?_
    refine v_iload_n cx dX6_placeIn_7 rfl 1 rfl ?_
    refine v_icmp_ge (tgt := 32) cx dX6_placeIn_8 (by decide) h (fun h => ?_) (fun h => ?_)
    · refine v_lv (lv' := [(0, .ref q_p0), (1, .int x1), (2, .int x2), (3, .int x3), (4, .int x4)]) [0, 1, 2, 3, 4] rfl ?_
      exact hK32 _ _ h
    · refine v_aload_n cx dX6_placeIn_11 rfl 0 rfl ?_
      refine v_iload cx dX6_placeIn_12 4 rfl ?_
      refine v_iald cx dX6_placeIn_14 0 rfl h (fun h => ?_)
      refine v_iload_n cx dX6_placeIn_15 rfl 2 rfl ?_
      refine v_icmp_ne (tgt := 24) cx dX6_placeIn_16 (by decide) h (fun h => ?_) (fun h => ?_)
      · refine v_iload_n cx dX6_placeIn_24 rfl 3 rfl ?_
        refine v_istore_n (lv' := [(3, .int x3), (0, .ref q_p0), (1, .int x1), (2, .int x2), (4, .int x4)]) cx dX6_placeIn_25 rfl (by decide) rfl ?_
        refine v_iinc (v := x4 + 1) (k0 := 4) (lv' := [(4, .int (x4 + 1)), (3, .int x3), (0, .ref q_p0), (1, .int x1), (2, .int x2)]) cx dX6_placeIn_26 rfl rfl (by decide) rfl ?_
        refine v_goto (tgt := 5) cx dX6_placeIn_29 (by decide) ?_
        refine v_lv (lv' := [(0, .ref q_p0), (1, .int x1), (2, .int x2), (3, .int x3), (4, .int (x4 + 1))]) [2, 3, 4, 1, 0] rfl ?_
        exact ih _ _ h
      · refine v_iload cx dX6_placeIn_19 4 rfl ?_
        refine v_goto (tgt := 25) cx dX6_placeIn_21 (by decide) ?_
        refine v_istore_n (lv' := [(3, .int x4), (0, .ref q_p0), (1, .int x1), (2, .int x2), (4, .int x4)]) cx dX6_placeIn_25 rfl (by decide) rfl ?_
        refine v_iinc (v := x4 + 1) (k0 := 4) (lv' := [(4, .int (x4 + 1)), (3, .int x4), (0, .ref q_p0), (1, .int x1), (2, .int x2)]) cx dX6_placeIn_26 rfl rfl (by decide) rfl ?_
        refine v_goto (tgt := 5) cx dX6_placeIn_29 (by decide) ?_
        refine v_lv (lv' := [(0, .ref q_p0), (1, .int x1), (2, .int x2), (3, .int x4), (4, .int (x4 + 1))]) [2, 3, 4, 1, 0] rfl ?_
        exact ih _ _ h
set_option maxHeartbeats 4000000 in
set_option maxRecDepth 100000 in
theorem c_X6_placeIn (l : Launch) (g : gT) (D : va_G) (cy : Nat → ClassId) (q_p0 : Nat) {p0 : Nat → Int32} {x1 : Int32} {x2 : Int32} {N : Nat} {Q : Int32 → Prop} (h : p_X6_placeIn N p0 x1 x2 Q) : UC l yX6_placeIn cX6_placeIn 5 (some .int) rm_X6_placeIn g D cy [.ref q_p0, .int x1, .int x2] [(q_p0, .inl (cy 0, 16, .inl p0))] (fun v w => w = [(q_p0, .inl (cy 0, 16, .inl p0))] ∧ ∃ r : Int32, v = some (.int r) ∧ Q r) := by
  refine UC_of (by decide +kernel) (Nat.le_of_ble_eq_true rfl) [(0, .ref q_p0), (1, .int x1), (2, .int x2)] rfl (fun p e s m args below meth c A cx => ?_)
  unfold p_X6_placeIn at h
  refine v_iconst (v := (-1)) cx dX6_placeIn_0 (by decide) ?_
  refine v_istore_n (lv' := [(3, .int (-1)), (0, .ref q_p0), (1, .int x1), (2, .int x2)]) cx dX6_placeIn_1 rfl (by decide) rfl ?_
  refine v_iconst (v := 0) cx dX6_placeIn_2 (by decide) ?_
  refine v_istore (lv' := [(4, .int 0), (3, .int (-1)), (0, .ref q_p0), (1, .int x1), (2, .int x2)]) cx dX6_placeIn_3 (by decide) rfl ?_
  refine v_lv (lv' := [(0, .ref q_p0), (1, .int x1), (2, .int x2), (3, .int (-1)), (4, .int 0)]) [2, 3, 4, 1, 0] rfl ?_
  refine w_X6_placeIn_5 cx q_p0 ?_ N _ _ h
  · intro x3_1 x4_2 h
    refine v_iload_n cx dX6_placeIn_32 rfl 3 rfl ?_
    exact v_ireturn cx rfl dX6_placeIn_33 ⟨rfl, _, rfl, h⟩
abbrev rm_X6_names : Room := { frames := 1, cells := 0, slots := 0, locals := 22 }
set_option maxHeartbeats 4000000 in
set_option maxRecDepth 100000 in
theorem c_X6_names (l : Launch) (g : gT) (D : va_G) (cy : Nat → ClassId) (q_t q_t_m q_t_saved q_t_text q_t_read q_t_counts q_t_scores q_t_isIn q_t_order q_t_row q_t_listing : Nat) {t_savedCount : Int32} {t_textLength : Int32} {t_code : Int32} {t_at : Int32} {t_number : Int32} {t_ranked : Int32} {t_emptySide : Int32} {t_listingLength : Int32} {t_hash : Int64} {t_m : Nat → Int32} {x1 : Int32} {N : Nat} {Q : Int32 → Prop} (h : p_X6_names N t_savedCount t_textLength t_code t_at t_number t_ranked t_emptySide t_listingLength t_hash t_m x1 Q) : UC l yX6_names cX6_names 2 (some .int) rm_X6_names g D cy [.ref q_t, .int x1] [(q_t, .inr (6, [.ref q_t_m, .ref q_t_saved, .int t_savedCount, .ref q_t_text, .int t_textLength, .int t_code, .int t_at, .ref q_t_read, .int t_number, .ref q_t_counts, .ref q_t_scores, .ref q_t_isIn, .ref q_t_order, .int t_ranked, .int t_emptySide, .ref q_t_row, .ref q_t_listing, .int t_listingLength, .long t_hash])), (q_t_m, .inl (cy 0, 378, .inl t_m))] (fun v w => w = [(q_t, .inr (6, [.ref q_t_m, .ref q_t_saved, .int t_savedCount, .ref q_t_text, .int t_textLength, .int t_code, .int t_at, .ref q_t_read, .int t_number, .ref q_t_counts, .ref q_t_scores, .ref q_t_isIn, .ref q_t_order, .int t_ranked, .int t_emptySide, .ref q_t_row, .ref q_t_listing, .int t_listingLength, .long t_hash])), (q_t_m, .inl (cy 0, 378, .inl t_m))] ∧ ∃ r : Int32, v = some (.int r) ∧ Q r) := by
  refine UC_of (by decide +kernel) (Nat.le_of_ble_eq_true rfl) [(0, .ref q_t), (1, .int x1)] rfl (fun p e s m args below meth c A cx => ?_)
  unfold p_X6_names at h
  refine v_aload_n cx dX6_names_0 rfl 0 rfl ?_
  refine v_iload_n cx dX6_names_1 rfl 1 rfl ?_
  refine v_iconst (v := 4) cx dX6_names_2 (by decide) ?_
  refine v_callVpi (As := [.int x1, .int 4]) cx (c_X6_of l g D cy q_t q_t_m q_t_saved q_t_text q_t_read q_t_counts q_t_scores q_t_isIn q_t_order q_t_row q_t_listing h) k_X6_118 (by decide) ⟨rfl, rfl⟩ (by decide) rfl rfl (Nat.le_of_ble_eq_true rfl) dX6_names_3 [0, 1] [] (by decide) (vj_all 2 rfl (by decide +kernel)) rfl rfl rfl (q0 := 0) rfl rfl (fun r_1 h => ?_)
  refine v_if_eq (tgt := 13) cx dX6_names_6 (by decide) h (fun h => ?_) (fun h => ?_)
  · refine v_aload_n cx dX6_names_13 rfl 0 rfl ?_
    refine v_iload_n cx dX6_names_14 rfl 1 rfl ?_
    refine v_iconst (v := 3) cx dX6_names_15 (by decide) ?_
    refine v_callVpi (As := [.int x1, .int 3]) cx (c_X6_of l g D cy q_t q_t_m q_t_saved q_t_text q_t_read q_t_counts q_t_scores q_t_isIn q_t_order q_t_row q_t_listing h) k_X6_118 (by decide) ⟨rfl, rfl⟩ (by decide) rfl rfl (Nat.le_of_ble_eq_true rfl) dX6_names_16 [0, 1] [] (by decide) (vj_all 2 rfl (by decide +kernel)) rfl rfl rfl (q0 := 0) rfl rfl (fun r_2 h => ?_)
    refine v_if_eq (tgt := 26) cx dX6_names_19 (by decide) h (fun h => ?_) (fun h => ?_)
    · refine v_iconst (v := 1) cx dX6_names_26 (by decide) ?_
      exact v_ireturn cx rfl dX6_names_27 ⟨rfl, _, rfl, h⟩
    · refine v_iconst (v := 2) cx dX6_names_22 (by decide) ?_
      refine v_goto (tgt := 27) cx dX6_names_23 (by decide) ?_
      exact v_ireturn cx rfl dX6_names_27 ⟨rfl, _, rfl, h⟩
  · refine v_iconst (v := 3) cx dX6_names_9 (by decide) ?_
    refine v_goto (tgt := 27) cx dX6_names_10 (by decide) ?_
    exact v_ireturn cx rfl dX6_names_27 ⟨rfl, _, rfl, h⟩
abbrev rm_X6_variantOf : Room := { frames := 3, cells := 0, slots := 0, locals := 69 }
set_option maxHeartbeats 4000000 in
set_option maxRecDepth 100000 in
theorem c_X6_variantOf (l : Launch) (g : gT) (D : va_G) (cy : Nat → ClassId) (q_t q_t_m q_t_saved q_t_text q_t_read q_t_counts q_t_scores q_t_isIn q_t_order q_t_row q_t_listing : Nat) {t_savedCount : Int32} {t_textLength : Int32} {t_code : Int32} {t_at : Int32} {t_number : Int32} {t_ranked : Int32} {t_emptySide : Int32} {t_listingLength : Int32} {t_hash : Int64} {t_m : Nat → Int32} {t_scores : Nat → Int32} {t_counts : Nat → Int32} {t_order : Nat → Int32} {t_row : Nat → Int32} {x1 : Int32} {x2 : Int32} {N : Nat} {Q : Int32 → Prop} (h : p_X6_variantOf N t_savedCount t_textLength t_code t_at t_number t_ranked t_emptySide t_listingLength t_hash t_m t_scores t_counts t_order t_row x1 x2 Q) : UC l yX6_variantOf cX6_variantOf 3 (some .int) rm_X6_variantOf g D cy [.ref q_t, .int x1, .int x2] [(q_t, .inr (6, [.ref q_t_m, .ref q_t_saved, .int t_savedCount, .ref q_t_text, .int t_textLength, .int t_code, .int t_at, .ref q_t_read, .int t_number, .ref q_t_counts, .ref q_t_scores, .ref q_t_isIn, .ref q_t_order, .int t_ranked, .int t_emptySide, .ref q_t_row, .ref q_t_listing, .int t_listingLength, .long t_hash])), (q_t_m, .inl (cy 0, 378, .inl t_m)), (q_t_scores, .inl (cy 0, 16, .inl t_scores)), (q_t_counts, .inl (cy 0, 96, .inl t_counts)), (q_t_order, .inl (cy 0, 16, .inl t_order)), (q_t_row, .inl (cy 0, 16, .inl t_row))] (fun v w => w = [(q_t, .inr (6, [.ref q_t_m, .ref q_t_saved, .int t_savedCount, .ref q_t_text, .int t_textLength, .int t_code, .int t_at, .ref q_t_read, .int t_number, .ref q_t_counts, .ref q_t_scores, .ref q_t_isIn, .ref q_t_order, .int t_ranked, .int t_emptySide, .ref q_t_row, .ref q_t_listing, .int t_listingLength, .long t_hash])), (q_t_m, .inl (cy 0, 378, .inl t_m)), (q_t_scores, .inl (cy 0, 16, .inl t_scores)), (q_t_counts, .inl (cy 0, 96, .inl t_counts)), (q_t_order, .inl (cy 0, 16, .inl t_order)), (q_t_row, .inl (cy 0, 16, .inl t_row))] ∧ ∃ r : Int32, v = some (.int r) ∧ Q r) := by
  refine UC_of (by decide +kernel) (Nat.le_of_ble_eq_true rfl) [(0, .ref q_t), (1, .int x1), (2, .int x2)] rfl (fun p e s m args below meth c A cx => ?_)
  unfold p_X6_variantOf at h
  refine v_iload_n cx dX6_variantOf_0 rfl 2 rfl ?_
  by_cases hsw : x2.toInt < 0 ∨ 5 < x2.toInt
  · have h := h.1 hsw
    refine v_tableOut (tgt := 97) cx dX6_variantOf_1 hsw (by decide) ?_
    refine v_aload_n cx dX6_variantOf_97 rfl 0 rfl ?_
    refine v_iload_n cx dX6_variantOf_98 rfl 1 rfl ?_
    refine v_callVpi (As := [.int x1]) cx (c_X6_names l g D cy q_t q_t_m q_t_saved q_t_text q_t_read q_t_counts q_t_scores q_t_isIn q_t_order q_t_row q_t_listing h) k_X6_206 (by decide) ⟨rfl, rfl⟩ (by decide) rfl rfl (Nat.le_of_ble_eq_true rfl) dX6_variantOf_99 [0, 1] [2, 3, 4, 5] (by decide) (vj_all 6 rfl (by decide +kernel)) rfl rfl rfl (q0 := 0) rfl rfl (fun r_6 h => ?_)
    exact v_ireturn cx rfl dX6_variantOf_102 ⟨rfl, _, rfl, h⟩
  · have hsw : x2.toInt = 0 ∨ x2.toInt = 1 ∨ x2.toInt = 2 ∨ x2.toInt = 3 ∨ x2.toInt = 4 ∨ x2.toInt = 5 := by omega
    obtain ⟨-, h0, h1, h2, h3, h4, h5⟩ := h
    rcases hsw with hsw | hsw | hsw | hsw | hsw | hsw
    · have h := h0 hsw
      refine v_tableIn (tgt := 40) (z := 0) cx dX6_variantOf_1 hsw ⟨by decide, by decide, rfl⟩ (by decide) ?_
      refine v_aload_n cx dX6_variantOf_40 rfl 0 rfl ?_
      refine v_iload_n cx dX6_variantOf_41 rfl 1 rfl ?_
      refine v_bipush (v := 6) cx dX6_variantOf_42 (by decide) ?_
      refine v_callVpi (As := [.int x1, .int 6]) cx (c_X6_of l g D cy q_t q_t_m q_t_saved q_t_text q_t_read q_t_counts q_t_scores q_t_isIn q_t_order q_t_row q_t_listing h) k_X6_118 (by decide) ⟨rfl, rfl⟩ (by decide) rfl rfl (Nat.le_of_ble_eq_true rfl) dX6_variantOf_44 [0, 1] [2, 3, 4, 5] (by decide) (vj_all 6 rfl (by decide +kernel)) rfl rfl rfl (q0 := 0) rfl rfl (fun r_1 h => ?_)
      exact v_ireturn cx rfl dX6_variantOf_47 ⟨rfl, _, rfl, h⟩
    · have h := h1 hsw
      refine v_tableIn (tgt := 48) (z := 1) cx dX6_variantOf_1 hsw ⟨by decide, by decide, rfl⟩ (by decide) ?_
      refine v_aload_n cx dX6_variantOf_48 rfl 0 rfl ?_
      refine v_iload_n cx dX6_variantOf_49 rfl 1 rfl ?_
      refine v_bipush (v := 7) cx dX6_variantOf_50 (by decide) ?_
      refine v_callVpi (As := [.int x1, .int 7]) cx (c_X6_of l g D cy q_t q_t_m q_t_saved q_t_text q_t_read q_t_counts q_t_scores q_t_isIn q_t_order q_t_row q_t_listing h) k_X6_118 (by decide) ⟨rfl, rfl⟩ (by decide) rfl rfl (Nat.le_of_ble_eq_true rfl) dX6_variantOf_52 [0, 1] [2, 3, 4, 5] (by decide) (vj_all 6 rfl (by decide +kernel)) rfl rfl rfl (q0 := 0) rfl rfl (fun r_2 h => ?_)
      exact v_ireturn cx rfl dX6_variantOf_55 ⟨rfl, _, rfl, h⟩
    · have h := h2 hsw
      refine v_tableIn (tgt := 56) (z := 2) cx dX6_variantOf_1 hsw ⟨by decide, by decide, rfl⟩ (by decide) ?_
      refine v_aload_n cx dX6_variantOf_56 rfl 0 rfl ?_
      refine g_X6_25 cx dX6_variantOf_57 0 rfl rfl ?_
      refine v_iload_n cx dX6_variantOf_60 rfl 1 rfl ?_
      refine v_iald cx dX6_variantOf_61 2 rfl h (fun h => ?_)
      exact v_ireturn cx rfl dX6_variantOf_62 ⟨rfl, _, rfl, h⟩
    · have h := h3 hsw
      refine v_tableIn (tgt := 63) (z := 3) cx dX6_variantOf_1 hsw ⟨by decide, by decide, rfl⟩ (by decide) ?_
      refine v_aload_n cx dX6_variantOf_63 rfl 0 rfl ?_
      refine v_iload_n cx dX6_variantOf_64 rfl 1 rfl ?_
      refine v_callVpi (As := [.int x1]) cx (c_X6_reason l g D cy q_t q_t_m q_t_saved q_t_text q_t_read q_t_counts q_t_scores q_t_isIn q_t_order q_t_row q_t_listing h) k_X6_199 (by decide) ⟨rfl, rfl⟩ (by decide) rfl rfl (Nat.le_of_ble_eq_true rfl) dX6_variantOf_65 [0, 2, 3, 1] [4, 5] (by decide) (vj_all 6 rfl (by decide +kernel)) rfl rfl rfl (q0 := 0) rfl rfl (fun r_3 h => ?_)
      exact v_ireturn cx rfl dX6_variantOf_68 ⟨rfl, _, rfl, h⟩
    · have h := h4 hsw
      refine v_tableIn (tgt := 69) (z := 4) cx dX6_variantOf_1 hsw ⟨by decide, by decide, rfl⟩ (by decide) ?_
      refine v_aload_n cx dX6_variantOf_69 rfl 0 rfl ?_
      refine g_X6_32 cx dX6_variantOf_70 0 rfl rfl ?_
      refine v_aload_n cx dX6_variantOf_73 rfl 0 rfl ?_
      refine g_X6_164 cx dX6_variantOf_74 0 rfl rfl ?_
      refine v_iload_n cx dX6_variantOf_77 rfl 1 rfl ?_
      refine v_callSpi (As := [.ref q_t_order, .int t_ranked, .int x1]) cx (c_X6_placeIn l g D cy q_t_order h) k_X6_202 (by decide) ⟨rfl, rfl⟩ (by decide) rfl rfl (Nat.le_of_ble_eq_true rfl) dX6_variantOf_78 [4] [0, 1, 2, 3, 5] (by decide) (vj_all 6 rfl (by decide +kernel)) rfl rfl rfl (fun r_4 h => ?_)
      exact v_ireturn cx rfl dX6_variantOf_81 ⟨rfl, _, rfl, h⟩
    · have h := h5 hsw
      refine v_tableIn (tgt := 82) (z := 5) cx dX6_variantOf_1 hsw ⟨by decide, by decide, rfl⟩ (by decide) ?_
      refine v_aload_n cx dX6_variantOf_82 rfl 0 rfl ?_
      refine g_X6_39 cx dX6_variantOf_83 0 rfl rfl ?_
      refine v_aload_n cx dX6_variantOf_86 rfl 0 rfl ?_
      refine g_X6_7 cx dX6_variantOf_87 0 rfl rfl ?_
      refine v_iconst (v := 0) cx dX6_variantOf_90 (by decide) ?_
      refine v_iald cx dX6_variantOf_91 1 rfl ⟨by unfold vp_in; decide, h⟩ (fun h => ?_)
      refine v_iload_n cx dX6_variantOf_92 rfl 1 rfl ?_
      refine v_callSpi (As := [.ref q_t_row, .int (t_m (0 : Int32).toNatClampNeg), .int x1]) cx (c_X6_placeIn l g D cy q_t_row h) k_X6_202 (by decide) ⟨rfl, rfl⟩ (by decide) rfl rfl (Nat.le_of_ble_eq_true rfl) dX6_variantOf_93 [5] [0, 1, 2, 3, 4] (by decide) (vj_all 6 rfl (by decide +kernel)) rfl rfl rfl (fun r_5 h => ?_)
      exact v_ireturn cx rfl dX6_variantOf_96 ⟨rfl, _, rfl, h⟩
abbrev rm_X6_variant : Room := { frames := 6, cells := 0, slots := 0, locals := 134 }
set_option maxHeartbeats 4000000 in
set_option maxRecDepth 100000 in
theorem c_X6_variant (l : Launch) (g : gT) (D : va_G) (cy : Nat → ClassId) (q_t q_t_m q_t_saved q_t_text q_t_read q_t_counts q_t_scores q_t_isIn q_t_order q_t_row q_t_listing : Nat) {t_savedCount : Int32} {t_textLength : Int32} {t_code : Int32} {t_at : Int32} {t_number : Int32} {t_ranked : Int32} {t_emptySide : Int32} {t_listingLength : Int32} {t_hash : Int64} {t_m : Nat → Int32} {t_counts : Nat → Int32} {t_scores : Nat → Int32} {t_isIn : Nat → Int32} {t_order : Nat → Int32} {t_row : Nat → Int32} {x1 : Int32} {x2 : Int32} {N : Nat} {Q : Int32 → Int32 → Int32 → (Nat → Int32) → (Nat → Int32) → (Nat → Int32) → (Nat → Int32) → (Nat → Int32) → Prop} (h : p_X6_variant N t_savedCount t_textLength t_code t_at t_number t_ranked t_emptySide t_listingLength t_hash t_m t_counts t_scores t_isIn t_order t_row x1 x2 Q) : UC l yX6_variant cX6_variant 3 (some .int) rm_X6_variant g D cy [.ref q_t, .int x1, .int x2] [(q_t, .inr (6, [.ref q_t_m, .ref q_t_saved, .int t_savedCount, .ref q_t_text, .int t_textLength, .int t_code, .int t_at, .ref q_t_read, .int t_number, .ref q_t_counts, .ref q_t_scores, .ref q_t_isIn, .ref q_t_order, .int t_ranked, .int t_emptySide, .ref q_t_row, .ref q_t_listing, .int t_listingLength, .long t_hash])), (q_t_m, .inl (cy 0, 378, .inl t_m)), (q_t_counts, .inl (cy 0, 96, .inl t_counts)), (q_t_scores, .inl (cy 0, 16, .inl t_scores)), (q_t_isIn, .inl (cy 3, 16, .inl t_isIn)), (q_t_order, .inl (cy 0, 16, .inl t_order)), (q_t_row, .inl (cy 0, 16, .inl t_row))] (fun v w => ∃ (r : Int32) (t_code' : Int32) (t_ranked' : Int32) (t_counts' : Nat → Int32) (t_scores' : Nat → Int32) (t_isIn' : Nat → Int32) (t_order' : Nat → Int32) (t_row' : Nat → Int32), v = some (.int r) ∧ w = [(q_t, .inr (6, [.ref q_t_m, .ref q_t_saved, .int t_savedCount, .ref q_t_text, .int t_textLength, .int t_code', .int t_at, .ref q_t_read, .int t_number, .ref q_t_counts, .ref q_t_scores, .ref q_t_isIn, .ref q_t_order, .int t_ranked', .int t_emptySide, .ref q_t_row, .ref q_t_listing, .int t_listingLength, .long t_hash])), (q_t_m, .inl (cy 0, 378, .inl t_m)), (q_t_counts, .inl (cy 0, 96, .inl t_counts')), (q_t_scores, .inl (cy 0, 16, .inl t_scores')), (q_t_isIn, .inl (cy 3, 16, .inl t_isIn')), (q_t_order, .inl (cy 0, 16, .inl t_order')), (q_t_row, .inl (cy 0, 16, .inl t_row'))] ∧ Q r t_code' t_ranked' t_counts' t_scores' t_isIn' t_order' t_row') := by
  refine UC_of (by decide +kernel) (Nat.le_of_ble_eq_true rfl) [(0, .ref q_t), (1, .int x1), (2, .int x2)] rfl (fun p e s m args below meth c A cx => ?_)
  unfold p_X6_variant at h
  refine v_aload_n cx dX6_variant_0 rfl 0 rfl ?_
  refine v_aload_n cx dX6_variant_1 rfl 0 rfl ?_
  refine v_iload_n cx dX6_variant_2 rfl 1 rfl ?_
  refine v_callVpi (As := [.int x1]) cx (c_X6_isVariant l g D cy q_t q_t_m q_t_saved q_t_text q_t_read q_t_counts q_t_scores q_t_isIn q_t_order q_t_row q_t_listing h) k_X6_124 (by decide) ⟨rfl, rfl⟩ (by decide) rfl rfl (Nat.le_of_ble_eq_true rfl) dX6_variant_3 [0, 1] [2, 3, 4, 5, 6] (by decide) (vj_all 7 rfl (by decide +kernel)) rfl rfl rfl (q0 := 0) rfl rfl (fun r_1 h => ?_)
  refine v_if_ne (tgt := 13) cx dX6_variant_6 (by decide) h (fun h => ?_) (fun h => ?_)
  · refine v_iload_n cx dX6_variant_13 rfl 2 rfl ?_
    refine v_iconst (v := 0) cx dX6_variant_14 (by decide) ?_
    refine v_bipush (v := 6) cx dX6_variant_15 (by decide) ?_
    refine v_callSpi (As := [.int x2, .int 0, .int 6]) cx (c_X6_in l g D cy  h) k_X6_51 (by decide) ⟨rfl, rfl⟩ (by decide) rfl rfl (Nat.le_of_ble_eq_true rfl) dX6_variant_17 [] [0, 1, 2, 3, 4, 5, 6] (by decide) (vj_all 7 rfl (by decide +kernel)) rfl rfl rfl (fun r_2 h => ?_)
    refine v_if_eq (tgt := 27) cx dX6_variant_20 (by decide) h (fun h => ?_) (fun h => ?_)
    · refine v_iconst (v := 2) cx dX6_variant_27 (by decide) ?_
      refine p_X6_45 (ws' := [(q_t, .inr (6, [.ref q_t_m, .ref q_t_saved, .int t_savedCount, .ref q_t_text, .int t_textLength, .int 2, .int t_at, .ref q_t_read, .int t_number, .ref q_t_counts, .ref q_t_scores, .ref q_t_isIn, .ref q_t_order, .int t_ranked, .int t_emptySide, .ref q_t_row, .ref q_t_listing, .int t_listingLength, .long t_hash])), (q_t_m, .inl (cy 0, 378, .inl t_m)), (q_t_counts, .inl (cy 0, 96, .inl t_counts)), (q_t_scores, .inl (cy 0, 16, .inl t_scores)), (q_t_isIn, .inl (cy 3, 16, .inl t_isIn)), (q_t_order, .inl (cy 0, 16, .inl t_order)), (q_t_row, .inl (cy 0, 16, .inl t_row))]) cx dX6_variant_28 0 rfl rfl rfl (Nat.le_of_ble_eq_true rfl) rfl ?_
      refine v_aload_n cx dX6_variant_31 rfl 0 rfl ?_
      refine g_X6_45 cx dX6_variant_32 0 rfl rfl ?_
      refine v_if_eq (tgt := 40) (P1 := False) (P2 := True) cx dX6_variant_35 (by decide) (by decide) (fun z => z.elim) (fun _ => ?_)
      refine v_iconst (v := 0) cx dX6_variant_38 (by decide) ?_
      exact v_ireturn cx rfl dX6_variant_39 ⟨_, _, _, _, _, _, _, _, rfl, rfl, h⟩
    · refine v_iconst (v := 0) cx dX6_variant_23 (by decide) ?_
      refine v_goto (tgt := 28) cx dX6_variant_24 (by decide) ?_
      refine p_X6_45 (ws' := [(q_t, .inr (6, [.ref q_t_m, .ref q_t_saved, .int t_savedCount, .ref q_t_text, .int t_textLength, .int 0, .int t_at, .ref q_t_read, .int t_number, .ref q_t_counts, .ref q_t_scores, .ref q_t_isIn, .ref q_t_order, .int t_ranked, .int t_emptySide, .ref q_t_row, .ref q_t_listing, .int t_listingLength, .long t_hash])), (q_t_m, .inl (cy 0, 378, .inl t_m)), (q_t_counts, .inl (cy 0, 96, .inl t_counts)), (q_t_scores, .inl (cy 0, 16, .inl t_scores)), (q_t_isIn, .inl (cy 3, 16, .inl t_isIn)), (q_t_order, .inl (cy 0, 16, .inl t_order)), (q_t_row, .inl (cy 0, 16, .inl t_row))]) cx dX6_variant_28 0 rfl rfl rfl (Nat.le_of_ble_eq_true rfl) rfl ?_
      refine v_aload_n cx dX6_variant_31 rfl 0 rfl ?_
      refine g_X6_45 cx dX6_variant_32 0 rfl rfl ?_
      refine v_if_eq (tgt := 40) (P1 := True) (P2 := False) cx dX6_variant_35 (by decide) (by decide) (fun _ => ?_) (fun z => z.elim)
      refine v_aload_n cx dX6_variant_40 rfl 0 rfl ?_
      refine v_callV (As := []) cx (c_X6_survey l g D cy q_t q_t_m q_t_saved q_t_text q_t_read q_t_counts q_t_scores q_t_isIn q_t_order q_t_row q_t_listing h) k_X6_209 (by decide) (by decide) rfl rfl (Nat.le_of_ble_eq_true rfl) dX6_variant_41 [0, 1, 2, 3, 4, 5] [6] (by decide) rfl rfl rfl (q0 := 0) rfl rfl (fun v9 w9 hp => ?_)
      refine Exists.elim hp fun u_3 hp => Exists.elim hp fun u_4 hp => Exists.elim hp fun u_5 hp => Exists.elim hp fun u_6 hp => Exists.elim hp fun u_7 hp => ?_
      obtain ⟨rfl, rfl, h⟩ := hp
      refine v_afterJ (ws' := [(q_t, .inr (6, [.ref q_t_m, .ref q_t_saved, .int t_savedCount, .ref q_t_text, .int t_textLength, .int 0, .int t_at, .ref q_t_read, .int t_number, .ref q_t_counts, .ref q_t_scores, .ref q_t_isIn, .ref q_t_order, .int u_3, .int t_emptySide, .ref q_t_row, .ref q_t_listing, .int t_listingLength, .long t_hash])), (q_t_m, .inl (cy 0, 378, .inl t_m)), (q_t_counts, .inl (cy 0, 96, .inl u_4)), (q_t_scores, .inl (cy 0, 16, .inl u_5)), (q_t_isIn, .inl (cy 3, 16, .inl u_6)), (q_t_order, .inl (cy 0, 16, .inl u_7)), (q_t_row, .inl (cy 0, 16, .inl t_row))]) (st' := []) (ce := 0) (sl := 0) 7 [7, 8, 9, 10, 11, 12, 6] (by decide +kernel) (by decide +kernel) rfl rfl ⟨rfl, rfl⟩ ?_
      refine v_aload_n cx dX6_variant_44 rfl 0 rfl ?_
      refine v_callV (As := []) cx (c_X6_list l g D cy q_t q_t_m q_t_saved q_t_text q_t_read q_t_counts q_t_scores q_t_isIn q_t_order q_t_row q_t_listing h) k_X6_193 (by decide) (by decide) rfl rfl (Nat.le_of_ble_eq_true rfl) dX6_variant_45 [0, 1, 6] [2, 3, 4, 5] (by decide) rfl rfl rfl (q0 := 0) rfl rfl (fun v9 w9 hp => ?_)
      obtain ⟨u_8, rfl, rfl, h⟩ := hp
      refine v_afterJ (ws' := [(q_t, .inr (6, [.ref q_t_m, .ref q_t_saved, .int t_savedCount, .ref q_t_text, .int t_textLength, .int 0, .int t_at, .ref q_t_read, .int t_number, .ref q_t_counts, .ref q_t_scores, .ref q_t_isIn, .ref q_t_order, .int u_3, .int t_emptySide, .ref q_t_row, .ref q_t_listing, .int t_listingLength, .long t_hash])), (q_t_m, .inl (cy 0, 378, .inl t_m)), (q_t_counts, .inl (cy 0, 96, .inl u_4)), (q_t_scores, .inl (cy 0, 16, .inl u_5)), (q_t_isIn, .inl (cy 3, 16, .inl u_6)), (q_t_order, .inl (cy 0, 16, .inl u_7)), (q_t_row, .inl (cy 0, 16, .inl u_8))]) (st' := []) (ce := 0) (sl := 0) 7 [7, 8, 2, 3, 4, 5, 9] (by decide +kernel) (by decide +kernel) rfl rfl ⟨rfl, rfl⟩ ?_
      refine v_aload_n cx dX6_variant_48 rfl 0 rfl ?_
      refine v_iload_n cx dX6_variant_49 rfl 1 rfl ?_
      refine v_iload_n cx dX6_variant_50 rfl 2 rfl ?_
      refine v_callVpi (As := [.int x1, .int x2]) cx (c_X6_variantOf l g D cy q_t q_t_m q_t_saved q_t_text q_t_read q_t_counts q_t_scores q_t_isIn q_t_order q_t_row q_t_listing h) k_X6_212 (by decide) ⟨rfl, rfl⟩ (by decide) rfl rfl (Nat.le_of_ble_eq_true rfl) dX6_variant_51 [0, 1, 3, 2, 5, 6] [4] (by decide) (vj_all 7 rfl (by decide +kernel)) rfl rfl rfl (q0 := 0) rfl rfl (fun r_9 h => ?_)
      exact v_ireturn cx rfl dX6_variant_54 ⟨_, _, _, _, _, _, _, _, rfl, rfl, h⟩
  · refine v_iconst (v := 1) cx dX6_variant_9 (by decide) ?_
    refine v_goto (tgt := 28) cx dX6_variant_10 (by decide) ?_
    refine p_X6_45 (ws' := [(q_t, .inr (6, [.ref q_t_m, .ref q_t_saved, .int t_savedCount, .ref q_t_text, .int t_textLength, .int 1, .int t_at, .ref q_t_read, .int t_number, .ref q_t_counts, .ref q_t_scores, .ref q_t_isIn, .ref q_t_order, .int t_ranked, .int t_emptySide, .ref q_t_row, .ref q_t_listing, .int t_listingLength, .long t_hash])), (q_t_m, .inl (cy 0, 378, .inl t_m)), (q_t_counts, .inl (cy 0, 96, .inl t_counts)), (q_t_scores, .inl (cy 0, 16, .inl t_scores)), (q_t_isIn, .inl (cy 3, 16, .inl t_isIn)), (q_t_order, .inl (cy 0, 16, .inl t_order)), (q_t_row, .inl (cy 0, 16, .inl t_row))]) cx dX6_variant_28 0 rfl rfl rfl (Nat.le_of_ble_eq_true rfl) rfl ?_
    refine v_aload_n cx dX6_variant_31 rfl 0 rfl ?_
    refine g_X6_45 cx dX6_variant_32 0 rfl rfl ?_
    refine v_if_eq (tgt := 40) (P1 := False) (P2 := True) cx dX6_variant_35 (by decide) (by decide) (fun z => z.elim) (fun _ => ?_)
    refine v_iconst (v := 0) cx dX6_variant_38 (by decide) ?_
    exact v_ireturn cx rfl dX6_variant_39 ⟨_, _, _, _, _, _, _, _, rfl, rfl, h⟩
abbrev rm_X6_weight : Room := { frames := 4, cells := 0, slots := 0, locals := 96 }
set_option maxHeartbeats 4000000 in
set_option maxRecDepth 100000 in
theorem c_X6_weight (l : Launch) (g : gT) (D : va_G) (cy : Nat → ClassId) (q_t q_t_m q_t_saved q_t_text q_t_read q_t_counts q_t_scores q_t_isIn q_t_order q_t_row q_t_listing : Nat) {t_savedCount : Int32} {t_textLength : Int32} {t_code : Int32} {t_at : Int32} {t_number : Int32} {t_ranked : Int32} {t_emptySide : Int32} {t_listingLength : Int32} {t_hash : Int64} {t_m : Nat → Int32} {t_counts : Nat → Int32} {x1 : Int32} {x2 : Int32} {x3 : Int32} {N : Nat} {Q : Int32 → Int32 → (Nat → Int32) → Prop} (h : p_X6_weight N t_savedCount t_textLength t_code t_at t_number t_ranked t_emptySide t_listingLength t_hash t_m t_counts x1 x2 x3 Q) : UC l yX6_weight cX6_weight 4 (some .int) rm_X6_weight g D cy [.ref q_t, .int x1, .int x2, .int x3] [(q_t, .inr (6, [.ref q_t_m, .ref q_t_saved, .int t_savedCount, .ref q_t_text, .int t_textLength, .int t_code, .int t_at, .ref q_t_read, .int t_number, .ref q_t_counts, .ref q_t_scores, .ref q_t_isIn, .ref q_t_order, .int t_ranked, .int t_emptySide, .ref q_t_row, .ref q_t_listing, .int t_listingLength, .long t_hash])), (q_t_m, .inl (cy 0, 378, .inl t_m)), (q_t_counts, .inl (cy 0, 96, .inl t_counts))] (fun v w => ∃ (r : Int32) (t_code' : Int32) (t_counts' : Nat → Int32), v = some (.int r) ∧ w = [(q_t, .inr (6, [.ref q_t_m, .ref q_t_saved, .int t_savedCount, .ref q_t_text, .int t_textLength, .int t_code', .int t_at, .ref q_t_read, .int t_number, .ref q_t_counts, .ref q_t_scores, .ref q_t_isIn, .ref q_t_order, .int t_ranked, .int t_emptySide, .ref q_t_row, .ref q_t_listing, .int t_listingLength, .long t_hash])), (q_t_m, .inl (cy 0, 378, .inl t_m)), (q_t_counts, .inl (cy 0, 96, .inl t_counts'))] ∧ Q r t_code' t_counts') := by
  refine UC_of (by decide +kernel) (Nat.le_of_ble_eq_true rfl) [(0, .ref q_t), (1, .int x1), (2, .int x2), (3, .int x3)] rfl (fun p e s m args below meth c A cx => ?_)
  unfold p_X6_weight at h
  refine v_aload_n cx dX6_weight_0 rfl 0 rfl ?_
  refine v_iload_n cx dX6_weight_1 rfl 1 rfl ?_
  refine v_iload_n cx dX6_weight_2 rfl 2 rfl ?_
  refine v_callSpi (As := [.int x1, .int x2]) cx (c_X6_isList l g D cy  h) k_X6_55 (by decide) ⟨rfl, rfl⟩ (by decide) rfl rfl (Nat.le_of_ble_eq_true rfl) dX6_weight_3 [] [0, 1, 2] (by decide) (vj_all 3 rfl (by decide +kernel)) rfl rfl rfl (fun r_1 h => ?_)
  refine v_if_eq (tgt := 21) cx dX6_weight_6 (by decide) h (fun h => ?_) (fun h => ?_)
  · refine v_iconst (v := 1) cx dX6_weight_21 (by decide) ?_
    refine p_X6_45 (ws' := [(q_t, .inr (6, [.ref q_t_m, .ref q_t_saved, .int t_savedCount, .ref q_t_text, .int t_textLength, .int 1, .int t_at, .ref q_t_read, .int t_number, .ref q_t_counts, .ref q_t_scores, .ref q_t_isIn, .ref q_t_order, .int t_ranked, .int t_emptySide, .ref q_t_row, .ref q_t_listing, .int t_listingLength, .long t_hash])), (q_t_m, .inl (cy 0, 378, .inl t_m)), (q_t_counts, .inl (cy 0, 96, .inl t_counts))]) cx dX6_weight_22 0 rfl rfl rfl (Nat.le_of_ble_eq_true rfl) rfl ?_
    refine v_aload_n cx dX6_weight_25 rfl 0 rfl ?_
    refine g_X6_45 cx dX6_weight_26 0 rfl rfl ?_
    refine v_if_eq (tgt := 34) (P1 := False) (P2 := True) cx dX6_weight_29 (by decide) (by decide) (fun z => z.elim) (fun _ => ?_)
    refine v_iconst (v := 0) cx dX6_weight_32 (by decide) ?_
    exact v_ireturn cx rfl dX6_weight_33 ⟨_, _, _, rfl, rfl, h⟩
  · refine v_aload_n cx dX6_weight_9 rfl 0 rfl ?_
    refine v_iload_n cx dX6_weight_10 rfl 3 rfl ?_
    refine v_callVpi (As := [.int x3]) cx (c_X6_isVariant l g D cy q_t q_t_m q_t_saved q_t_text q_t_read q_t_counts q_t_scores q_t_isIn q_t_order q_t_row q_t_listing h) k_X6_124 (by decide) ⟨rfl, rfl⟩ (by decide) rfl rfl (Nat.le_of_ble_eq_true rfl) dX6_weight_11 [0, 1] [2] (by decide) (vj_all 3 rfl (by decide +kernel)) rfl rfl rfl (q0 := 0) rfl rfl (fun r_2 h => ?_)
    refine v_if_eq (tgt := 21) cx dX6_weight_14 (by decide) h (fun h => ?_) (fun h => ?_)
    · refine v_iconst (v := 1) cx dX6_weight_21 (by decide) ?_
      refine p_X6_45 (ws' := [(q_t, .inr (6, [.ref q_t_m, .ref q_t_saved, .int t_savedCount, .ref q_t_text, .int t_textLength, .int 1, .int t_at, .ref q_t_read, .int t_number, .ref q_t_counts, .ref q_t_scores, .ref q_t_isIn, .ref q_t_order, .int t_ranked, .int t_emptySide, .ref q_t_row, .ref q_t_listing, .int t_listingLength, .long t_hash])), (q_t_m, .inl (cy 0, 378, .inl t_m)), (q_t_counts, .inl (cy 0, 96, .inl t_counts))]) cx dX6_weight_22 0 rfl rfl rfl (Nat.le_of_ble_eq_true rfl) rfl ?_
      refine v_aload_n cx dX6_weight_25 rfl 0 rfl ?_
      refine g_X6_45 cx dX6_weight_26 0 rfl rfl ?_
      refine v_if_eq (tgt := 34) (P1 := False) (P2 := True) cx dX6_weight_29 (by decide) (by decide) (fun z => z.elim) (fun _ => ?_)
      refine v_iconst (v := 0) cx dX6_weight_32 (by decide) ?_
      exact v_ireturn cx rfl dX6_weight_33 ⟨_, _, _, rfl, rfl, h⟩
    · refine v_iconst (v := 0) cx dX6_weight_17 (by decide) ?_
      refine v_goto (tgt := 22) cx dX6_weight_18 (by decide) ?_
      refine p_X6_45 (ws' := [(q_t, .inr (6, [.ref q_t_m, .ref q_t_saved, .int t_savedCount, .ref q_t_text, .int t_textLength, .int 0, .int t_at, .ref q_t_read, .int t_number, .ref q_t_counts, .ref q_t_scores, .ref q_t_isIn, .ref q_t_order, .int t_ranked, .int t_emptySide, .ref q_t_row, .ref q_t_listing, .int t_listingLength, .long t_hash])), (q_t_m, .inl (cy 0, 378, .inl t_m)), (q_t_counts, .inl (cy 0, 96, .inl t_counts))]) cx dX6_weight_22 0 rfl rfl rfl (Nat.le_of_ble_eq_true rfl) rfl ?_
      refine v_aload_n cx dX6_weight_25 rfl 0 rfl ?_
      refine g_X6_45 cx dX6_weight_26 0 rfl rfl ?_
      refine v_if_eq (tgt := 34) (P1 := True) (P2 := False) cx dX6_weight_29 (by decide) (by decide) (fun _ => ?_) (fun z => z.elim)
      refine v_aload_n cx dX6_weight_34 rfl 0 rfl ?_
      refine v_callV (As := []) cx (c_X6_count l g D cy q_t q_t_m q_t_saved q_t_text q_t_read q_t_counts q_t_scores q_t_isIn q_t_order q_t_row q_t_listing h) k_X6_173 (by decide) (by decide) rfl rfl (Nat.le_of_ble_eq_true rfl) dX6_weight_35 [0, 1, 2] [] (by decide) rfl rfl rfl (q0 := 0) rfl rfl (fun v9 w9 hp => ?_)
      obtain ⟨u_3, rfl, rfl, h⟩ := hp
      refine v_afterJ (ws' := [(q_t, .inr (6, [.ref q_t_m, .ref q_t_saved, .int t_savedCount, .ref q_t_text, .int t_textLength, .int 0, .int t_at, .ref q_t_read, .int t_number, .ref q_t_counts, .ref q_t_scores, .ref q_t_isIn, .ref q_t_order, .int t_ranked, .int t_emptySide, .ref q_t_row, .ref q_t_listing, .int t_listingLength, .long t_hash])), (q_t_m, .inl (cy 0, 378, .inl t_m)), (q_t_counts, .inl (cy 0, 96, .inl u_3))]) (st' := []) (ce := 0) (sl := 0) 3 [3, 4, 5] (by decide +kernel) (by decide +kernel) rfl rfl ⟨rfl, rfl⟩ ?_
      refine v_aload_n cx dX6_weight_38 rfl 0 rfl ?_
      refine v_iload_n cx dX6_weight_39 rfl 1 rfl ?_
      refine v_iload_n cx dX6_weight_40 rfl 2 rfl ?_
      refine v_callSpi (As := [.int x1, .int x2]) cx (c_X6_listOf l g D cy  h) k_X6_59 (by decide) ⟨rfl, rfl⟩ (by decide) rfl rfl (Nat.le_of_ble_eq_true rfl) dX6_weight_41 [] [0, 1, 2] (by decide) (vj_all 3 rfl (by decide +kernel)) rfl rfl rfl (fun r_4 h => ?_)
      refine v_iload_n cx dX6_weight_44 rfl 3 rfl ?_
      refine v_callVpi (As := [.int r_4, .int x3]) cx (c_X6_weightIn l g D cy q_t q_t_m q_t_saved q_t_text q_t_read q_t_counts q_t_scores q_t_isIn q_t_order q_t_row q_t_listing h) k_X6_155 (by decide) ⟨rfl, rfl⟩ (by decide) rfl rfl (Nat.le_of_ble_eq_true rfl) dX6_weight_45 [0, 2, 1] [] (by decide) (vj_all 3 rfl (by decide +kernel)) rfl rfl rfl (q0 := 0) rfl rfl (fun r_5 h => ?_)
      exact v_ireturn cx rfl dX6_weight_48 ⟨_, _, _, rfl, rfl, h⟩
abbrev rm_X6_counting : Room := { frames := 3, cells := 0, slots := 0, locals := 74 }
set_option maxHeartbeats 4000000 in
set_option maxRecDepth 100000 in
theorem c_X6_counting (l : Launch) (g : gT) (D : va_G) (cy : Nat → ClassId) (q_t q_t_m q_t_saved q_t_text q_t_read q_t_counts q_t_scores q_t_isIn q_t_order q_t_row q_t_listing : Nat) {t_savedCount : Int32} {t_textLength : Int32} {t_code : Int32} {t_at : Int32} {t_number : Int32} {t_ranked : Int32} {t_emptySide : Int32} {t_listingLength : Int32} {t_hash : Int64} {t_m : Nat → Int32} {x1 : Int32} {x2 : Int32} {x3 : Int32} {N : Nat} {Q : Int32 → Int32 → Prop} (h : p_X6_counting N t_savedCount t_textLength t_code t_at t_number t_ranked t_emptySide t_listingLength t_hash t_m x1 x2 x3 Q) : UC l yX6_counting cX6_counting 4 (some .int) rm_X6_counting g D cy [.ref q_t, .int x1, .int x2, .int x3] [(q_t, .inr (6, [.ref q_t_m, .ref q_t_saved, .int t_savedCount, .ref q_t_text, .int t_textLength, .int t_code, .int t_at, .ref q_t_read, .int t_number, .ref q_t_counts, .ref q_t_scores, .ref q_t_isIn, .ref q_t_order, .int t_ranked, .int t_emptySide, .ref q_t_row, .ref q_t_listing, .int t_listingLength, .long t_hash])), (q_t_m, .inl (cy 0, 378, .inl t_m))] (fun v w => ∃ (r : Int32) (t_code' : Int32), v = some (.int r) ∧ w = [(q_t, .inr (6, [.ref q_t_m, .ref q_t_saved, .int t_savedCount, .ref q_t_text, .int t_textLength, .int t_code', .int t_at, .ref q_t_read, .int t_number, .ref q_t_counts, .ref q_t_scores, .ref q_t_isIn, .ref q_t_order, .int t_ranked, .int t_emptySide, .ref q_t_row, .ref q_t_listing, .int t_listingLength, .long t_hash])), (q_t_m, .inl (cy 0, 378, .inl t_m))] ∧ Q r t_code') := by
  refine UC_of (by decide +kernel) (Nat.le_of_ble_eq_true rfl) [(0, .ref q_t), (1, .int x1), (2, .int x2), (3, .int x3)] rfl (fun p e s m args below meth c A cx => ?_)
  unfold p_X6_counting at h
  refine v_aload_n cx dX6_counting_0 rfl 0 rfl ?_
  refine v_iload_n cx dX6_counting_1 rfl 1 rfl ?_
  refine v_iload_n cx dX6_counting_2 rfl 2 rfl ?_
  refine v_callSpi (As := [.int x1, .int x2]) cx (c_X6_isList l g D cy  h) k_X6_55 (by decide) ⟨rfl, rfl⟩ (by decide) rfl rfl (Nat.le_of_ble_eq_true rfl) dX6_counting_3 [] [0, 1] (by decide) (vj_all 2 rfl (by decide +kernel)) rfl rfl rfl (fun r_1 h => ?_)
  refine v_if_eq (tgt := 21) cx dX6_counting_6 (by decide) h (fun h => ?_) (fun h => ?_)
  · refine v_iconst (v := 1) cx dX6_counting_21 (by decide) ?_
    refine p_X6_45 (ws' := [(q_t, .inr (6, [.ref q_t_m, .ref q_t_saved, .int t_savedCount, .ref q_t_text, .int t_textLength, .int 1, .int t_at, .ref q_t_read, .int t_number, .ref q_t_counts, .ref q_t_scores, .ref q_t_isIn, .ref q_t_order, .int t_ranked, .int t_emptySide, .ref q_t_row, .ref q_t_listing, .int t_listingLength, .long t_hash])), (q_t_m, .inl (cy 0, 378, .inl t_m))]) cx dX6_counting_22 0 rfl rfl rfl (Nat.le_of_ble_eq_true rfl) rfl ?_
    refine v_aload_n cx dX6_counting_25 rfl 0 rfl ?_
    refine g_X6_45 cx dX6_counting_26 0 rfl rfl ?_
    refine v_if_eq (tgt := 36) (P1 := False) (P2 := True) cx dX6_counting_29 (by decide) (by decide) (fun z => z.elim) (fun _ => ?_)
    refine v_iconst (v := 0) cx dX6_counting_32 (by decide) ?_
    refine v_goto (tgt := 46) cx dX6_counting_33 (by decide) ?_
    exact v_ireturn cx rfl dX6_counting_46 ⟨_, _, rfl, rfl, h⟩
  · refine v_aload_n cx dX6_counting_9 rfl 0 rfl ?_
    refine v_iload_n cx dX6_counting_10 rfl 3 rfl ?_
    refine v_callVpi (As := [.int x3]) cx (c_X6_isVariant l g D cy q_t q_t_m q_t_saved q_t_text q_t_read q_t_counts q_t_scores q_t_isIn q_t_order q_t_row q_t_listing h) k_X6_124 (by decide) ⟨rfl, rfl⟩ (by decide) rfl rfl (Nat.le_of_ble_eq_true rfl) dX6_counting_11 [0, 1] [] (by decide) (vj_all 2 rfl (by decide +kernel)) rfl rfl rfl (q0 := 0) rfl rfl (fun r_2 h => ?_)
    refine v_if_eq (tgt := 21) cx dX6_counting_14 (by decide) h (fun h => ?_) (fun h => ?_)
    · refine v_iconst (v := 1) cx dX6_counting_21 (by decide) ?_
      refine p_X6_45 (ws' := [(q_t, .inr (6, [.ref q_t_m, .ref q_t_saved, .int t_savedCount, .ref q_t_text, .int t_textLength, .int 1, .int t_at, .ref q_t_read, .int t_number, .ref q_t_counts, .ref q_t_scores, .ref q_t_isIn, .ref q_t_order, .int t_ranked, .int t_emptySide, .ref q_t_row, .ref q_t_listing, .int t_listingLength, .long t_hash])), (q_t_m, .inl (cy 0, 378, .inl t_m))]) cx dX6_counting_22 0 rfl rfl rfl (Nat.le_of_ble_eq_true rfl) rfl ?_
      refine v_aload_n cx dX6_counting_25 rfl 0 rfl ?_
      refine g_X6_45 cx dX6_counting_26 0 rfl rfl ?_
      refine v_if_eq (tgt := 36) (P1 := False) (P2 := True) cx dX6_counting_29 (by decide) (by decide) (fun z => z.elim) (fun _ => ?_)
      refine v_iconst (v := 0) cx dX6_counting_32 (by decide) ?_
      refine v_goto (tgt := 46) cx dX6_counting_33 (by decide) ?_
      exact v_ireturn cx rfl dX6_counting_46 ⟨_, _, rfl, rfl, h⟩
    · refine v_iconst (v := 0) cx dX6_counting_17 (by decide) ?_
      refine v_goto (tgt := 22) cx dX6_counting_18 (by decide) ?_
      refine p_X6_45 (ws' := [(q_t, .inr (6, [.ref q_t_m, .ref q_t_saved, .int t_savedCount, .ref q_t_text, .int t_textLength, .int 0, .int t_at, .ref q_t_read, .int t_number, .ref q_t_counts, .ref q_t_scores, .ref q_t_isIn, .ref q_t_order, .int t_ranked, .int t_emptySide, .ref q_t_row, .ref q_t_listing, .int t_listingLength, .long t_hash])), (q_t_m, .inl (cy 0, 378, .inl t_m))]) cx dX6_counting_22 0 rfl rfl rfl (Nat.le_of_ble_eq_true rfl) rfl ?_
      refine v_aload_n cx dX6_counting_25 rfl 0 rfl ?_
      refine g_X6_45 cx dX6_counting_26 0 rfl rfl ?_
      refine v_if_eq (tgt := 36) (P1 := True) (P2 := False) cx dX6_counting_29 (by decide) (by decide) (fun _ => ?_) (fun z => z.elim)
      refine v_aload_n cx dX6_counting_36 rfl 0 rfl ?_
      refine v_iload_n cx dX6_counting_37 rfl 1 rfl ?_
      refine v_iload_n cx dX6_counting_38 rfl 2 rfl ?_
      refine v_callSpi (As := [.int x1, .int x2]) cx (c_X6_listOf l g D cy  h) k_X6_59 (by decide) ⟨rfl, rfl⟩ (by decide) rfl rfl (Nat.le_of_ble_eq_true rfl) dX6_counting_39 [] [0, 1] (by decide) (vj_all 2 rfl (by decide +kernel)) rfl rfl rfl (fun r_3 h => ?_)
      refine v_iload_n cx dX6_counting_42 rfl 3 rfl ?_
      refine v_callVpi (As := [.int r_3, .int x3]) cx (c_X6_countingIn l g D cy q_t q_t_m q_t_saved q_t_text q_t_read q_t_counts q_t_scores q_t_isIn q_t_order q_t_row q_t_listing h) k_X6_152 (by decide) ⟨rfl, rfl⟩ (by decide) rfl rfl (Nat.le_of_ble_eq_true rfl) dX6_counting_43 [0, 1] [] (by decide) (vj_all 2 rfl (by decide +kernel)) rfl rfl rfl (q0 := 0) rfl rfl (fun r_4 h => ?_)
      exact v_ireturn cx rfl dX6_counting_46 ⟨_, _, rfl, rfl, h⟩
abbrev rm_X6_rangeNames : Room := { frames := 1, cells := 0, slots := 0, locals := 23 }
set_option maxHeartbeats 4000000 in
set_option maxRecDepth 100000 in
theorem w_X6_rangeNames_5 {p : Program} {l : Launch} {e : Env} {s : State} {m : MethodId} {args : Array Value} {below : List Frame} {meth : Method} {c : Code} {Q9 : State → Prop} {mn : String} {Ts : List Cond} {D : va_G} {cy : Nat → ClassId} {g : gT} {A : Nat → Prop} (cx : vC p s m args meth c cX6_rangeNames 5 (some .int) RX6 mn Ts D cy g A) (q_t q_t_m q_t_saved q_t_text q_t_read q_t_counts q_t_scores q_t_isIn q_t_order q_t_row q_t_listing : Nat) {x1 : Int32} {x2 : Int32} {t_savedCount : Int32} {t_textLength : Int32} {t_code : Int32} {t_at : Int32} {t_number : Int32} {t_ranked : Int32} {t_emptySide : Int32} {t_listingLength : Int32} {t_hash : Int64} {t_m : Nat → Int32} {N : Nat} {K36 : Int32 → Int32 → Prop} (hK36 : ∀ (x3 : Int32) (x4 : Int32), K36 x3 x4 → vV p l e rm_X6_rangeNames s m args below meth c Q9 5 D A 0 0 [(q_t, .inr (6, [.ref q_t_m, .ref q_t_saved, .int t_savedCount, .ref q_t_text, .int t_textLength, .int t_code, .int t_at, .ref q_t_read, .int t_number, .ref q_t_counts, .ref q_t_scores, .ref q_t_isIn, .ref q_t_order, .int t_ranked, .int t_emptySide, .ref q_t_row, .ref q_t_listing, .int t_listingLength, .long t_hash])), (q_t_m, .inl (cy 0, 378, .inl t_m))] 36 [(0, .ref q_t), (1, .int x1), (2, .int x2), (3, .int x3), (4, .int x4)] []) : ∀ (n : Nat) (x3 : Int32) (x4 : Int32), p_X6_rangeNames_5 N x1 x2 t_savedCount t_textLength t_code t_at t_number t_ranked t_emptySide t_listingLength t_hash t_m K36 n x3 x4 → vV p l e rm_X6_rangeNames s m args below meth c Q9 5 D A 0 0 [(q_t, .inr (6, [.ref q_t_m, .ref q_t_saved, .int t_savedCount, .ref q_t_text, .int t_textLength, .int t_code, .int t_at, .ref q_t_read, .int t_number, .ref q_t_counts, .ref q_t_scores, .ref q_t_isIn, .ref q_t_order, .int t_ranked, .int t_emptySide, .ref q_t_row, .ref q_t_listing, .int t_listingLength, .long t_hash])), (q_t_m, .inl (cy 0, 378, .inl t_m))] 5 [(0, .ref q_t), (1, .int x1), (2, .int x2), (3, .int x3), (4, .int x4)] [] := by
  intro n
  induction n with
  | zero => intro x3 x4 h; exact False.elim h
  | succ n ih =>
    intro x3 x4 h
    unfold p_X6_rangeNames_5 at h
    refine v_iload cx dX6_rangeNames_5 4 rfl ?_
    refine v_iconst (v := 3) cx dX6_rangeNames_7 (by decide) ?_
    refine v_icmp_ge (tgt := 36) cx dX6_rangeNames_8 (by decide) h (fun h => ?_) (fun h => ?_)
    · refine v_lv (lv' := [(0, .ref q_t), (1, .int x1), (2, .int x2), (3, .int x3), (4, .int x4)]) [0, 1, 2, 3, 4] rfl ?_
      exact hK36 _ _ h
    · refine v_iload_n cx dX6_rangeNames_11 rfl 3 rfl ?_
      refine v_aload_n cx dX6_rangeNames_12 rfl 0 rfl ?_
      refine v_iload_n cx dX6_rangeNames_13 rfl 1 rfl ?_
      refine v_iload_n cx dX6_rangeNames_14 rfl 2 rfl ?_
      refine v_iload cx dX6_rangeNames_15 4 rfl ?_
      refine v_callVpi (As := [.int x1, .int x2, .int x4]) cx (c_X6_ofEntry l g D cy q_t q_t_m q_t_saved q_t_text q_t_read q_t_counts q_t_scores q_t_isIn q_t_order q_t_row q_t_listing h) k_X6_141 (by decide) ⟨rfl, rfl⟩ (by decide) rfl rfl (Nat.le_of_ble_eq_true rfl) dX6_rangeNames_17 [0, 1] [] (by decide) (vj_all 2 rfl (by decide +kernel)) rfl rfl rfl (q0 := 0) rfl rfl (fun r_1 h => ?_)
      refine v_if_eq (tgt := 27) cx dX6_rangeNames_20 (by decide) h (fun h => ?_) (fun h => ?_)
      · refine v_iconst (v := 0) cx dX6_rangeNames_27 (by decide) ?_
        refine v_iadd cx dX6_rangeNames_28 ?_
        refine v_istore_n (lv' := [(3, .int (x3 + 0)), (0, .ref q_t), (1, .int x1), (2, .int x2), (4, .int x4)]) cx dX6_rangeNames_29 rfl (by decide) rfl ?_
        refine v_iinc (v := x4 + 1) (k0 := 4) (lv' := [(4, .int (x4 + 1)), (3, .int (x3 + 0)), (0, .ref q_t), (1, .int x1), (2, .int x2)]) cx dX6_rangeNames_30 rfl rfl (by decide) rfl ?_
        refine v_goto (tgt := 5) cx dX6_rangeNames_33 (by decide) ?_
        refine v_lv (lv' := [(0, .ref q_t), (1, .int x1), (2, .int x2), (3, .int (x3 + 0)), (4, .int (x4 + 1))]) [2, 3, 4, 1, 0] rfl ?_
        exact ih _ _ h
      · refine v_iconst (v := 1) cx dX6_rangeNames_23 (by decide) ?_
        refine v_goto (tgt := 28) cx dX6_rangeNames_24 (by decide) ?_
        refine v_iadd cx dX6_rangeNames_28 ?_
        refine v_istore_n (lv' := [(3, .int (x3 + 1)), (0, .ref q_t), (1, .int x1), (2, .int x2), (4, .int x4)]) cx dX6_rangeNames_29 rfl (by decide) rfl ?_
        refine v_iinc (v := x4 + 1) (k0 := 4) (lv' := [(4, .int (x4 + 1)), (3, .int (x3 + 1)), (0, .ref q_t), (1, .int x1), (2, .int x2)]) cx dX6_rangeNames_30 rfl rfl (by decide) rfl ?_
        refine v_goto (tgt := 5) cx dX6_rangeNames_33 (by decide) ?_
        refine v_lv (lv' := [(0, .ref q_t), (1, .int x1), (2, .int x2), (3, .int (x3 + 1)), (4, .int (x4 + 1))]) [2, 3, 4, 1, 0] rfl ?_
        exact ih _ _ h
set_option maxHeartbeats 4000000 in
set_option maxRecDepth 100000 in
theorem c_X6_rangeNames (l : Launch) (g : gT) (D : va_G) (cy : Nat → ClassId) (q_t q_t_m q_t_saved q_t_text q_t_read q_t_counts q_t_scores q_t_isIn q_t_order q_t_row q_t_listing : Nat) {t_savedCount : Int32} {t_textLength : Int32} {t_code : Int32} {t_at : Int32} {t_number : Int32} {t_ranked : Int32} {t_emptySide : Int32} {t_listingLength : Int32} {t_hash : Int64} {t_m : Nat → Int32} {x1 : Int32} {x2 : Int32} {N : Nat} {Q : Int32 → Prop} (h : p_X6_rangeNames N t_savedCount t_textLength t_code t_at t_number t_ranked t_emptySide t_listingLength t_hash t_m x1 x2 Q) : UC l yX6_rangeNames cX6_rangeNames 5 (some .int) rm_X6_rangeNames g D cy [.ref q_t, .int x1, .int x2] [(q_t, .inr (6, [.ref q_t_m, .ref q_t_saved, .int t_savedCount, .ref q_t_text, .int t_textLength, .int t_code, .int t_at, .ref q_t_read, .int t_number, .ref q_t_counts, .ref q_t_scores, .ref q_t_isIn, .ref q_t_order, .int t_ranked, .int t_emptySide, .ref q_t_row, .ref q_t_listing, .int t_listingLength, .long t_hash])), (q_t_m, .inl (cy 0, 378, .inl t_m))] (fun v w => w = [(q_t, .inr (6, [.ref q_t_m, .ref q_t_saved, .int t_savedCount, .ref q_t_text, .int t_textLength, .int t_code, .int t_at, .ref q_t_read, .int t_number, .ref q_t_counts, .ref q_t_scores, .ref q_t_isIn, .ref q_t_order, .int t_ranked, .int t_emptySide, .ref q_t_row, .ref q_t_listing, .int t_listingLength, .long t_hash])), (q_t_m, .inl (cy 0, 378, .inl t_m))] ∧ ∃ r : Int32, v = some (.int r) ∧ Q r) := by
  refine UC_of (by decide +kernel) (Nat.le_of_ble_eq_true rfl) [(0, .ref q_t), (1, .int x1), (2, .int x2)] rfl (fun p e s m args below meth c A cx => ?_)
  unfold p_X6_rangeNames at h
  refine v_iconst (v := 0) cx dX6_rangeNames_0 (by decide) ?_
  refine v_istore_n (lv' := [(3, .int 0), (0, .ref q_t), (1, .int x1), (2, .int x2)]) cx dX6_rangeNames_1 rfl (by decide) rfl ?_
  refine v_iconst (v := 0) cx dX6_rangeNames_2 (by decide) ?_
  refine v_istore (lv' := [(4, .int 0), (3, .int 0), (0, .ref q_t), (1, .int x1), (2, .int x2)]) cx dX6_rangeNames_3 (by decide) rfl ?_
  refine v_lv (lv' := [(0, .ref q_t), (1, .int x1), (2, .int x2), (3, .int 0), (4, .int 0)]) [2, 3, 4, 1, 0] rfl ?_
  refine w_X6_rangeNames_5 cx q_t q_t_m q_t_saved q_t_text q_t_read q_t_counts q_t_scores q_t_isIn q_t_order q_t_row q_t_listing ?_ N _ _ h
  · intro x3_2 x4_3 h
    refine v_iload_n cx dX6_rangeNames_36 rfl 3 rfl ?_
    exact v_ireturn cx rfl dX6_rangeNames_37 ⟨rfl, _, rfl, h⟩
abbrev rm_X6_entryOf : Room := { frames := 3, cells := 0, slots := 0, locals := 74 }
set_option maxHeartbeats 4000000 in
set_option maxRecDepth 100000 in
theorem w_X6_entryOf_9 {p : Program} {l : Launch} {e : Env} {s : State} {m : MethodId} {args : Array Value} {below : List Frame} {meth : Method} {c : Code} {Q9 : State → Prop} {mn : String} {Ts : List Cond} {D : va_G} {cy : Nat → ClassId} {g : gT} {A : Nat → Prop} (cx : vC p s m args meth c cX6_entryOf 7 (some .int) RX6 mn Ts D cy g A) (q_t q_t_m q_t_saved q_t_text q_t_read q_t_counts q_t_scores q_t_isIn q_t_order q_t_row q_t_listing : Nat) {x1 : Int32} {x2 : Int32} {x3 : Int32} {t_savedCount : Int32} {t_textLength : Int32} {t_code : Int32} {t_at : Int32} {t_number : Int32} {t_ranked : Int32} {t_emptySide : Int32} {t_listingLength : Int32} {t_hash : Int64} {t_m : Nat → Int32} {N : Nat} {K69 : Int32 → Int32 → Int32 → Prop} (hK69 : ∀ (x4 : Int32) (x5 : Int32) (x6 : Int32), K69 x4 x5 x6 → vV p l e rm_X6_entryOf s m args below meth c Q9 7 D A 0 0 [(q_t, .inr (6, [.ref q_t_m, .ref q_t_saved, .int t_savedCount, .ref q_t_text, .int t_textLength, .int t_code, .int t_at, .ref q_t_read, .int t_number, .ref q_t_counts, .ref q_t_scores, .ref q_t_isIn, .ref q_t_order, .int t_ranked, .int t_emptySide, .ref q_t_row, .ref q_t_listing, .int t_listingLength, .long t_hash])), (q_t_m, .inl (cy 0, 378, .inl t_m))] 69 [(0, .ref q_t), (1, .int x1), (2, .int x2), (3, .int x3), (4, .int x4), (5, .int x5), (6, .int x6)] []) : ∀ (n : Nat) (x4 : Int32) (x5 : Int32) (x6 : Int32), p_X6_entryOf_9 N x1 x2 x3 t_savedCount t_textLength t_code t_at t_number t_ranked t_emptySide t_listingLength t_hash t_m K69 n x4 x5 x6 → vV p l e rm_X6_entryOf s m args below meth c Q9 7 D A 0 0 [(q_t, .inr (6, [.ref q_t_m, .ref q_t_saved, .int t_savedCount, .ref q_t_text, .int t_textLength, .int t_code, .int t_at, .ref q_t_read, .int t_number, .ref q_t_counts, .ref q_t_scores, .ref q_t_isIn, .ref q_t_order, .int t_ranked, .int t_emptySide, .ref q_t_row, .ref q_t_listing, .int t_listingLength, .long t_hash])), (q_t_m, .inl (cy 0, 378, .inl t_m))] 9 [(0, .ref q_t), (1, .int x1), (2, .int x2), (3, .int x3), (4, .int x4), (5, .int x5), (6, .int x6)] [] := by
  intro n
  induction n with
  | zero => intro x4 x5 x6 h; exact False.elim h
  | succ n ih =>
    intro x4 x5 x6 h
    unfold p_X6_entryOf_9 at h
    refine v_iload cx dX6_entryOf_9 6 rfl ?_
    refine v_aload_n cx dX6_entryOf_11 rfl 0 rfl ?_
    refine g_X6_7 cx dX6_entryOf_12 0 rfl rfl ?_
    refine v_iconst (v := 0) cx dX6_entryOf_15 (by decide) ?_
    refine v_iald cx dX6_entryOf_16 1 rfl ⟨by unfold vp_in; decide, h⟩ (fun h => ?_)
    refine v_icmp_ge (tgt := 69) cx dX6_entryOf_17 (by decide) h (fun h => ?_) (fun h => ?_)
    · refine v_lv (lv' := [(0, .ref q_t), (1, .int x1), (2, .int x2), (3, .int x3), (4, .int x4), (5, .int x5), (6, .int x6)]) [0, 1, 2, 3, 4, 5, 6] rfl ?_
      exact hK69 _ _ _ h
    · refine v_iload cx dX6_entryOf_20 4 rfl ?_
      refine v_aload_n cx dX6_entryOf_22 rfl 0 rfl ?_
      refine v_iload_n cx dX6_entryOf_23 rfl 1 rfl ?_
      refine v_iload_n cx dX6_entryOf_24 rfl 2 rfl ?_
      refine v_iload cx dX6_entryOf_25 6 rfl ?_
      refine v_callVpi (As := [.int x1, .int x2, .int x6]) cx (c_X6_specific l g D cy q_t q_t_m q_t_saved q_t_text q_t_read q_t_counts q_t_scores q_t_isIn q_t_order q_t_row q_t_listing h) k_X6_145 (by decide) ⟨rfl, rfl⟩ (by decide) rfl rfl (Nat.le_of_ble_eq_true rfl) dX6_entryOf_27 [0, 1] [] (by decide) (vj_all 2 rfl (by decide +kernel)) rfl rfl rfl (q0 := 0) rfl rfl (fun r_1 h => ?_)
      refine v_iconst (v := (-1)) cx dX6_entryOf_30 (by decide) ?_
      refine v_icmp_eq (tgt := 38) cx dX6_entryOf_31 (by decide) h (fun h => ?_) (fun h => ?_)
      · refine v_iconst (v := 0) cx dX6_entryOf_38 (by decide) ?_
        refine v_iadd cx dX6_entryOf_39 ?_
        refine v_istore (lv' := [(4, .int (x4 + 0)), (0, .ref q_t), (1, .int x1), (2, .int x2), (3, .int x3), (5, .int x5), (6, .int x6)]) cx dX6_entryOf_40 (by decide) rfl ?_
        refine v_iload cx dX6_entryOf_42 5 rfl ?_
        refine v_aload_n cx dX6_entryOf_44 rfl 1 rfl ?_
        refine v_iload_n cx dX6_entryOf_45 rfl 2 rfl ?_
        refine v_iload cx dX6_entryOf_46 6 rfl ?_
        refine v_callVpi (As := [.int x1, .int x6]) cx (c_X6_countingIn l g D cy q_t q_t_m q_t_saved q_t_text q_t_read q_t_counts q_t_scores q_t_isIn q_t_order q_t_row q_t_listing h) k_X6_152 (by decide) ⟨rfl, rfl⟩ (by decide) rfl rfl (Nat.le_of_ble_eq_true rfl) dX6_entryOf_48 [0, 1] [] (by decide) (vj_all 2 rfl (by decide +kernel)) rfl rfl rfl (q0 := 0) rfl rfl (fun r_2 h => ?_)
        refine v_iload_n cx dX6_entryOf_51 rfl 3 rfl ?_
        refine v_icmp_ne (tgt := 59) cx dX6_entryOf_52 (by decide) h (fun h => ?_) (fun h => ?_)
        · refine v_iconst (v := 0) cx dX6_entryOf_59 (by decide) ?_
          refine v_iadd cx dX6_entryOf_60 ?_
          refine v_istore (lv' := [(5, .int (x5 + 0)), (4, .int (x4 + 0)), (0, .ref q_t), (1, .int x1), (2, .int x2), (3, .int x3), (6, .int x6)]) cx dX6_entryOf_61 (by decide) rfl ?_
          refine v_iinc (v := x6 + 1) (k0 := 6) (lv' := [(6, .int (x6 + 1)), (5, .int (x5 + 0)), (4, .int (x4 + 0)), (0, .ref q_t), (1, .int x1), (2, .int x2), (3, .int x3)]) cx dX6_entryOf_63 rfl rfl (by decide) rfl ?_
          refine v_goto (tgt := 9) cx dX6_entryOf_66 (by decide) ?_
          refine v_lv (lv' := [(0, .ref q_t), (1, .int x1), (2, .int x2), (3, .int x3), (4, .int (x4 + 0)), (5, .int (x5 + 0)), (6, .int (x6 + 1))]) [3, 4, 5, 6, 2, 1, 0] rfl ?_
          exact ih _ _ _ h
        · refine v_iconst (v := 1) cx dX6_entryOf_55 (by decide) ?_
          refine v_goto (tgt := 60) cx dX6_entryOf_56 (by decide) ?_
          refine v_iadd cx dX6_entryOf_60 ?_
          refine v_istore (lv' := [(5, .int (x5 + 1)), (4, .int (x4 + 0)), (0, .ref q_t), (1, .int x1), (2, .int x2), (3, .int x3), (6, .int x6)]) cx dX6_entryOf_61 (by decide) rfl ?_
          refine v_iinc (v := x6 + 1) (k0 := 6) (lv' := [(6, .int (x6 + 1)), (5, .int (x5 + 1)), (4, .int (x4 + 0)), (0, .ref q_t), (1, .int x1), (2, .int x2), (3, .int x3)]) cx dX6_entryOf_63 rfl rfl (by decide) rfl ?_
          refine v_goto (tgt := 9) cx dX6_entryOf_66 (by decide) ?_
          refine v_lv (lv' := [(0, .ref q_t), (1, .int x1), (2, .int x2), (3, .int x3), (4, .int (x4 + 0)), (5, .int (x5 + 1)), (6, .int (x6 + 1))]) [3, 4, 5, 6, 2, 1, 0] rfl ?_
          exact ih _ _ _ h
      · refine v_iconst (v := 1) cx dX6_entryOf_34 (by decide) ?_
        refine v_goto (tgt := 39) cx dX6_entryOf_35 (by decide) ?_
        refine v_iadd cx dX6_entryOf_39 ?_
        refine v_istore (lv' := [(4, .int (x4 + 1)), (0, .ref q_t), (1, .int x1), (2, .int x2), (3, .int x3), (5, .int x5), (6, .int x6)]) cx dX6_entryOf_40 (by decide) rfl ?_
        refine v_iload cx dX6_entryOf_42 5 rfl ?_
        refine v_aload_n cx dX6_entryOf_44 rfl 1 rfl ?_
        refine v_iload_n cx dX6_entryOf_45 rfl 2 rfl ?_
        refine v_iload cx dX6_entryOf_46 6 rfl ?_
        refine v_callVpi (As := [.int x1, .int x6]) cx (c_X6_countingIn l g D cy q_t q_t_m q_t_saved q_t_text q_t_read q_t_counts q_t_scores q_t_isIn q_t_order q_t_row q_t_listing h) k_X6_152 (by decide) ⟨rfl, rfl⟩ (by decide) rfl rfl (Nat.le_of_ble_eq_true rfl) dX6_entryOf_48 [0, 1] [] (by decide) (vj_all 2 rfl (by decide +kernel)) rfl rfl rfl (q0 := 0) rfl rfl (fun r_3 h => ?_)
        refine v_iload_n cx dX6_entryOf_51 rfl 3 rfl ?_
        refine v_icmp_ne (tgt := 59) cx dX6_entryOf_52 (by decide) h (fun h => ?_) (fun h => ?_)
        · refine v_iconst (v := 0) cx dX6_entryOf_59 (by decide) ?_
          refine v_iadd cx dX6_entryOf_60 ?_
          refine v_istore (lv' := [(5, .int (x5 + 0)), (4, .int (x4 + 1)), (0, .ref q_t), (1, .int x1), (2, .int x2), (3, .int x3), (6, .int x6)]) cx dX6_entryOf_61 (by decide) rfl ?_
          refine v_iinc (v := x6 + 1) (k0 := 6) (lv' := [(6, .int (x6 + 1)), (5, .int (x5 + 0)), (4, .int (x4 + 1)), (0, .ref q_t), (1, .int x1), (2, .int x2), (3, .int x3)]) cx dX6_entryOf_63 rfl rfl (by decide) rfl ?_
          refine v_goto (tgt := 9) cx dX6_entryOf_66 (by decide) ?_
          refine v_lv (lv' := [(0, .ref q_t), (1, .int x1), (2, .int x2), (3, .int x3), (4, .int (x4 + 1)), (5, .int (x5 + 0)), (6, .int (x6 + 1))]) [3, 4, 5, 6, 2, 1, 0] rfl ?_
          exact ih _ _ _ h
        · refine v_iconst (v := 1) cx dX6_entryOf_55 (by decide) ?_
          refine v_goto (tgt := 60) cx dX6_entryOf_56 (by decide) ?_
          refine v_iadd cx dX6_entryOf_60 ?_
          refine v_istore (lv' := [(5, .int (x5 + 1)), (4, .int (x4 + 1)), (0, .ref q_t), (1, .int x1), (2, .int x2), (3, .int x3), (6, .int x6)]) cx dX6_entryOf_61 (by decide) rfl ?_
          refine v_iinc (v := x6 + 1) (k0 := 6) (lv' := [(6, .int (x6 + 1)), (5, .int (x5 + 1)), (4, .int (x4 + 1)), (0, .ref q_t), (1, .int x1), (2, .int x2), (3, .int x3)]) cx dX6_entryOf_63 rfl rfl (by decide) rfl ?_
          refine v_goto (tgt := 9) cx dX6_entryOf_66 (by decide) ?_
          refine v_lv (lv' := [(0, .ref q_t), (1, .int x1), (2, .int x2), (3, .int x3), (4, .int (x4 + 1)), (5, .int (x5 + 1)), (6, .int (x6 + 1))]) [3, 4, 5, 6, 2, 1, 0] rfl ?_
          exact ih _ _ _ h
set_option maxHeartbeats 4000000 in
set_option maxRecDepth 100000 in
theorem c_X6_entryOf (l : Launch) (g : gT) (D : va_G) (cy : Nat → ClassId) (q_t q_t_m q_t_saved q_t_text q_t_read q_t_counts q_t_scores q_t_isIn q_t_order q_t_row q_t_listing : Nat) {t_savedCount : Int32} {t_textLength : Int32} {t_code : Int32} {t_at : Int32} {t_number : Int32} {t_ranked : Int32} {t_emptySide : Int32} {t_listingLength : Int32} {t_hash : Int64} {t_m : Nat → Int32} {x1 : Int32} {x2 : Int32} {x3 : Int32} {N : Nat} {Q : Int32 → Prop} (h : p_X6_entryOf N t_savedCount t_textLength t_code t_at t_number t_ranked t_emptySide t_listingLength t_hash t_m x1 x2 x3 Q) : UC l yX6_entryOf cX6_entryOf 7 (some .int) rm_X6_entryOf g D cy [.ref q_t, .int x1, .int x2, .int x3] [(q_t, .inr (6, [.ref q_t_m, .ref q_t_saved, .int t_savedCount, .ref q_t_text, .int t_textLength, .int t_code, .int t_at, .ref q_t_read, .int t_number, .ref q_t_counts, .ref q_t_scores, .ref q_t_isIn, .ref q_t_order, .int t_ranked, .int t_emptySide, .ref q_t_row, .ref q_t_listing, .int t_listingLength, .long t_hash])), (q_t_m, .inl (cy 0, 378, .inl t_m))] (fun v w => w = [(q_t, .inr (6, [.ref q_t_m, .ref q_t_saved, .int t_savedCount, .ref q_t_text, .int t_textLength, .int t_code, .int t_at, .ref q_t_read, .int t_number, .ref q_t_counts, .ref q_t_scores, .ref q_t_isIn, .ref q_t_order, .int t_ranked, .int t_emptySide, .ref q_t_row, .ref q_t_listing, .int t_listingLength, .long t_hash])), (q_t_m, .inl (cy 0, 378, .inl t_m))] ∧ ∃ r : Int32, v = some (.int r) ∧ Q r) := by
  refine UC_of (by decide +kernel) (Nat.le_of_ble_eq_true rfl) [(0, .ref q_t), (1, .int x1), (2, .int x2), (3, .int x3)] rfl (fun p e s m args below meth c A cx => ?_)
  unfold p_X6_entryOf at h
  refine v_iconst (v := 0) cx dX6_entryOf_0 (by decide) ?_
  refine v_istore (lv' := [(4, .int 0), (0, .ref q_t), (1, .int x1), (2, .int x2), (3, .int x3)]) cx dX6_entryOf_1 (by decide) rfl ?_
  refine v_iconst (v := 0) cx dX6_entryOf_3 (by decide) ?_
  refine v_istore (lv' := [(5, .int 0), (4, .int 0), (0, .ref q_t), (1, .int x1), (2, .int x2), (3, .int x3)]) cx dX6_entryOf_4 (by decide) rfl ?_
  refine v_iconst (v := 0) cx dX6_entryOf_6 (by decide) ?_
  refine v_istore (lv' := [(6, .int 0), (5, .int 0), (4, .int 0), (0, .ref q_t), (1, .int x1), (2, .int x2), (3, .int x3)]) cx dX6_entryOf_7 (by decide) rfl ?_
  refine v_lv (lv' := [(0, .ref q_t), (1, .int x1), (2, .int x2), (3, .int x3), (4, .int 0), (5, .int 0), (6, .int 0)]) [3, 4, 5, 6, 2, 1, 0] rfl ?_
  refine w_X6_entryOf_9 cx q_t q_t_m q_t_saved q_t_text q_t_read q_t_counts q_t_scores q_t_isIn q_t_order q_t_row q_t_listing ?_ N _ _ _ h
  · intro x4_4 x5_5 x6_6 h
    refine v_iload_n cx dX6_entryOf_69 rfl 3 rfl ?_
    refine v_if_ne (tgt := 83) cx dX6_entryOf_70 (by decide) h (fun h => ?_) (fun h => ?_)
    · refine v_iload_n cx dX6_entryOf_83 rfl 3 rfl ?_
      refine v_iconst (v := 1) cx dX6_entryOf_84 (by decide) ?_
      refine v_icmp_ne (tgt := 97) cx dX6_entryOf_85 (by decide) h (fun h => ?_) (fun h => ?_)
      · refine v_iload_n cx dX6_entryOf_97 rfl 3 rfl ?_
        refine v_iconst (v := 2) cx dX6_entryOf_98 (by decide) ?_
        refine v_icmp_ne (tgt := 107) cx dX6_entryOf_99 (by decide) h (fun h => ?_) (fun h => ?_)
        · refine v_iload cx dX6_entryOf_107 5 rfl ?_
          exact v_ireturn cx rfl dX6_entryOf_109 ⟨rfl, _, rfl, h⟩
        · refine v_iload cx dX6_entryOf_102 4 rfl ?_
          refine v_goto (tgt := 109) cx dX6_entryOf_104 (by decide) ?_
          exact v_ireturn cx rfl dX6_entryOf_109 ⟨rfl, _, rfl, h⟩
      · refine v_aload_n cx dX6_entryOf_88 rfl 0 rfl ?_
        refine v_iload_n cx dX6_entryOf_89 rfl 1 rfl ?_
        refine v_iload_n cx dX6_entryOf_90 rfl 2 rfl ?_
        refine v_callVpi (As := [.int x1, .int x2]) cx (c_X6_rangeNames l g D cy q_t q_t_m q_t_saved q_t_text q_t_read q_t_counts q_t_scores q_t_isIn q_t_order q_t_row q_t_listing h) k_X6_215 (by decide) ⟨rfl, rfl⟩ (by decide) rfl rfl (Nat.le_of_ble_eq_true rfl) dX6_entryOf_91 [0, 1] [] (by decide) (vj_all 2 rfl (by decide +kernel)) rfl rfl rfl (q0 := 0) rfl rfl (fun r_7 h => ?_)
        refine v_goto (tgt := 109) cx dX6_entryOf_94 (by decide) ?_
        exact v_ireturn cx rfl dX6_entryOf_109 ⟨rfl, _, rfl, h⟩
    · refine v_aload_n cx dX6_entryOf_73 rfl 0 rfl ?_
      refine v_iload_n cx dX6_entryOf_74 rfl 1 rfl ?_
      refine v_iload_n cx dX6_entryOf_75 rfl 2 rfl ?_
      refine v_iconst (v := 3) cx dX6_entryOf_76 (by decide) ?_
      refine v_callVpi (As := [.int x1, .int x2, .int 3]) cx (c_X6_ofEntry l g D cy q_t q_t_m q_t_saved q_t_text q_t_read q_t_counts q_t_scores q_t_isIn q_t_order q_t_row q_t_listing h) k_X6_141 (by decide) ⟨rfl, rfl⟩ (by decide) rfl rfl (Nat.le_of_ble_eq_true rfl) dX6_entryOf_77 [0, 1] [] (by decide) (vj_all 2 rfl (by decide +kernel)) rfl rfl rfl (q0 := 0) rfl rfl (fun r_8 h => ?_)
      refine v_goto (tgt := 109) cx dX6_entryOf_80 (by decide) ?_
      exact v_ireturn cx rfl dX6_entryOf_109 ⟨rfl, _, rfl, h⟩
abbrev rm_X6_entry : Room := { frames := 4, cells := 0, slots := 0, locals := 100 }
set_option maxHeartbeats 4000000 in
set_option maxRecDepth 100000 in
theorem c_X6_entry (l : Launch) (g : gT) (D : va_G) (cy : Nat → ClassId) (q_t q_t_m q_t_saved q_t_text q_t_read q_t_counts q_t_scores q_t_isIn q_t_order q_t_row q_t_listing : Nat) {t_savedCount : Int32} {t_textLength : Int32} {t_code : Int32} {t_at : Int32} {t_number : Int32} {t_ranked : Int32} {t_emptySide : Int32} {t_listingLength : Int32} {t_hash : Int64} {t_m : Nat → Int32} {x1 : Int32} {x2 : Int32} {x3 : Int32} {x4 : Int32} {N : Nat} {Q : Int32 → Int32 → Prop} (h : p_X6_entry N t_savedCount t_textLength t_code t_at t_number t_ranked t_emptySide t_listingLength t_hash t_m x1 x2 x3 x4 Q) : UC l yX6_entry cX6_entry 5 (some .int) rm_X6_entry g D cy [.ref q_t, .int x1, .int x2, .int x3, .int x4] [(q_t, .inr (6, [.ref q_t_m, .ref q_t_saved, .int t_savedCount, .ref q_t_text, .int t_textLength, .int t_code, .int t_at, .ref q_t_read, .int t_number, .ref q_t_counts, .ref q_t_scores, .ref q_t_isIn, .ref q_t_order, .int t_ranked, .int t_emptySide, .ref q_t_row, .ref q_t_listing, .int t_listingLength, .long t_hash])), (q_t_m, .inl (cy 0, 378, .inl t_m))] (fun v w => ∃ (r : Int32) (t_code' : Int32), v = some (.int r) ∧ w = [(q_t, .inr (6, [.ref q_t_m, .ref q_t_saved, .int t_savedCount, .ref q_t_text, .int t_textLength, .int t_code', .int t_at, .ref q_t_read, .int t_number, .ref q_t_counts, .ref q_t_scores, .ref q_t_isIn, .ref q_t_order, .int t_ranked, .int t_emptySide, .ref q_t_row, .ref q_t_listing, .int t_listingLength, .long t_hash])), (q_t_m, .inl (cy 0, 378, .inl t_m))] ∧ Q r t_code') := by
  refine UC_of (by decide +kernel) (Nat.le_of_ble_eq_true rfl) [(0, .ref q_t), (1, .int x1), (2, .int x2), (3, .int x3), (4, .int x4)] rfl (fun p e s m args below meth c A cx => ?_)
  unfold p_X6_entry at h
  refine v_aload_n cx dX6_entry_0 rfl 0 rfl ?_
  refine v_aload_n cx dX6_entry_1 rfl 0 rfl ?_
  refine v_iload_n cx dX6_entry_2 rfl 1 rfl ?_
  refine v_iload_n cx dX6_entry_3 rfl 2 rfl ?_
  refine v_iload_n cx dX6_entry_4 rfl 3 rfl ?_
  refine v_callVpi (As := [.int x1, .int x2, .int x3]) cx (c_X6_isEntry l g D cy q_t q_t_m q_t_saved q_t_text q_t_read q_t_counts q_t_scores q_t_isIn q_t_order q_t_row q_t_listing h) k_X6_131 (by decide) ⟨rfl, rfl⟩ (by decide) rfl rfl (Nat.le_of_ble_eq_true rfl) dX6_entry_5 [0, 1] [] (by decide) (vj_all 2 rfl (by decide +kernel)) rfl rfl rfl (q0 := 0) rfl rfl (fun r_1 h => ?_)
  refine v_if_ne (tgt := 15) cx dX6_entry_8 (by decide) h (fun h => ?_) (fun h => ?_)
  · refine v_iload cx dX6_entry_15 4 rfl ?_
    refine v_iconst (v := 0) cx dX6_entry_17 (by decide) ?_
    refine v_iconst (v := 3) cx dX6_entry_18 (by decide) ?_
    refine v_callSpi (As := [.int x4, .int 0, .int 3]) cx (c_X6_in l g D cy  h) k_X6_51 (by decide) ⟨rfl, rfl⟩ (by decide) rfl rfl (Nat.le_of_ble_eq_true rfl) dX6_entry_19 [] [0, 1] (by decide) (vj_all 2 rfl (by decide +kernel)) rfl rfl rfl (fun r_2 h => ?_)
    refine v_if_eq (tgt := 29) cx dX6_entry_22 (by decide) h (fun h => ?_) (fun h => ?_)
    · refine v_iconst (v := 2) cx dX6_entry_29 (by decide) ?_
      refine p_X6_45 (ws' := [(q_t, .inr (6, [.ref q_t_m, .ref q_t_saved, .int t_savedCount, .ref q_t_text, .int t_textLength, .int 2, .int t_at, .ref q_t_read, .int t_number, .ref q_t_counts, .ref q_t_scores, .ref q_t_isIn, .ref q_t_order, .int t_ranked, .int t_emptySide, .ref q_t_row, .ref q_t_listing, .int t_listingLength, .long t_hash])), (q_t_m, .inl (cy 0, 378, .inl t_m))]) cx dX6_entry_30 0 rfl rfl rfl (Nat.le_of_ble_eq_true rfl) rfl ?_
      refine v_aload_n cx dX6_entry_33 rfl 0 rfl ?_
      refine g_X6_45 cx dX6_entry_34 0 rfl rfl ?_
      refine v_if_eq (tgt := 44) (P1 := False) (P2 := True) cx dX6_entry_37 (by decide) (by decide) (fun z => z.elim) (fun _ => ?_)
      refine v_iconst (v := 0) cx dX6_entry_40 (by decide) ?_
      refine v_goto (tgt := 56) cx dX6_entry_41 (by decide) ?_
      exact v_ireturn cx rfl dX6_entry_56 ⟨_, _, rfl, rfl, h⟩
    · refine v_iconst (v := 0) cx dX6_entry_25 (by decide) ?_
      refine v_goto (tgt := 30) cx dX6_entry_26 (by decide) ?_
      refine p_X6_45 (ws' := [(q_t, .inr (6, [.ref q_t_m, .ref q_t_saved, .int t_savedCount, .ref q_t_text, .int t_textLength, .int 0, .int t_at, .ref q_t_read, .int t_number, .ref q_t_counts, .ref q_t_scores, .ref q_t_isIn, .ref q_t_order, .int t_ranked, .int t_emptySide, .ref q_t_row, .ref q_t_listing, .int t_listingLength, .long t_hash])), (q_t_m, .inl (cy 0, 378, .inl t_m))]) cx dX6_entry_30 0 rfl rfl rfl (Nat.le_of_ble_eq_true rfl) rfl ?_
      refine v_aload_n cx dX6_entry_33 rfl 0 rfl ?_
      refine g_X6_45 cx dX6_entry_34 0 rfl rfl ?_
      refine v_if_eq (tgt := 44) (P1 := True) (P2 := False) cx dX6_entry_37 (by decide) (by decide) (fun _ => ?_) (fun z => z.elim)
      refine v_aload_n cx dX6_entry_44 rfl 0 rfl ?_
      refine v_iload_n cx dX6_entry_45 rfl 1 rfl ?_
      refine v_iload_n cx dX6_entry_46 rfl 2 rfl ?_
      refine v_callSpi (As := [.int x1, .int x2]) cx (c_X6_listOf l g D cy  h) k_X6_59 (by decide) ⟨rfl, rfl⟩ (by decide) rfl rfl (Nat.le_of_ble_eq_true rfl) dX6_entry_47 [] [0, 1] (by decide) (vj_all 2 rfl (by decide +kernel)) rfl rfl rfl (fun r_3 h => ?_)
      refine v_iload_n cx dX6_entry_50 rfl 3 rfl ?_
      refine v_iload cx dX6_entry_51 4 rfl ?_
      refine v_callVpi (As := [.int r_3, .int x3, .int x4]) cx (c_X6_entryOf l g D cy q_t q_t_m q_t_saved q_t_text q_t_read q_t_counts q_t_scores q_t_isIn q_t_order q_t_row q_t_listing h) k_X6_218 (by decide) ⟨rfl, rfl⟩ (by decide) rfl rfl (Nat.le_of_ble_eq_true rfl) dX6_entry_53 [0, 1] [] (by decide) (vj_all 2 rfl (by decide +kernel)) rfl rfl rfl (q0 := 0) rfl rfl (fun r_4 h => ?_)
      exact v_ireturn cx rfl dX6_entry_56 ⟨_, _, rfl, rfl, h⟩
  · refine v_iconst (v := 1) cx dX6_entry_11 (by decide) ?_
    refine v_goto (tgt := 30) cx dX6_entry_12 (by decide) ?_
    refine p_X6_45 (ws' := [(q_t, .inr (6, [.ref q_t_m, .ref q_t_saved, .int t_savedCount, .ref q_t_text, .int t_textLength, .int 1, .int t_at, .ref q_t_read, .int t_number, .ref q_t_counts, .ref q_t_scores, .ref q_t_isIn, .ref q_t_order, .int t_ranked, .int t_emptySide, .ref q_t_row, .ref q_t_listing, .int t_listingLength, .long t_hash])), (q_t_m, .inl (cy 0, 378, .inl t_m))]) cx dX6_entry_30 0 rfl rfl rfl (Nat.le_of_ble_eq_true rfl) rfl ?_
    refine v_aload_n cx dX6_entry_33 rfl 0 rfl ?_
    refine g_X6_45 cx dX6_entry_34 0 rfl rfl ?_
    refine v_if_eq (tgt := 44) (P1 := False) (P2 := True) cx dX6_entry_37 (by decide) (by decide) (fun z => z.elim) (fun _ => ?_)
    refine v_iconst (v := 0) cx dX6_entry_40 (by decide) ?_
    refine v_goto (tgt := 56) cx dX6_entry_41 (by decide) ?_
    exact v_ireturn cx rfl dX6_entry_56 ⟨_, _, rfl, rfl, h⟩
abbrev rm_X6_ranked : Room := { frames := 6, cells := 0, slots := 0, locals := 134 }
set_option maxHeartbeats 4000000 in
set_option maxRecDepth 100000 in
theorem c_X6_ranked (l : Launch) (g : gT) (D : va_G) (cy : Nat → ClassId) (q_t q_t_m q_t_saved q_t_text q_t_read q_t_counts q_t_scores q_t_isIn q_t_order q_t_row q_t_listing : Nat) {t_savedCount : Int32} {t_textLength : Int32} {t_code : Int32} {t_at : Int32} {t_number : Int32} {t_ranked : Int32} {t_emptySide : Int32} {t_listingLength : Int32} {t_hash : Int64} {t_m : Nat → Int32} {t_counts : Nat → Int32} {t_scores : Nat → Int32} {t_isIn : Nat → Int32} {t_order : Nat → Int32} {x1 : Int32} {N : Nat} {Q : Int32 → Int32 → Int32 → (Nat → Int32) → (Nat → Int32) → (Nat → Int32) → (Nat → Int32) → Prop} (h : p_X6_ranked N t_savedCount t_textLength t_code t_at t_number t_ranked t_emptySide t_listingLength t_hash t_m t_counts t_scores t_isIn t_order x1 Q) : UC l yX6_ranked cX6_ranked 2 (some .int) rm_X6_ranked g D cy [.ref q_t, .int x1] [(q_t, .inr (6, [.ref q_t_m, .ref q_t_saved, .int t_savedCount, .ref q_t_text, .int t_textLength, .int t_code, .int t_at, .ref q_t_read, .int t_number, .ref q_t_counts, .ref q_t_scores, .ref q_t_isIn, .ref q_t_order, .int t_ranked, .int t_emptySide, .ref q_t_row, .ref q_t_listing, .int t_listingLength, .long t_hash])), (q_t_m, .inl (cy 0, 378, .inl t_m)), (q_t_counts, .inl (cy 0, 96, .inl t_counts)), (q_t_scores, .inl (cy 0, 16, .inl t_scores)), (q_t_isIn, .inl (cy 3, 16, .inl t_isIn)), (q_t_order, .inl (cy 0, 16, .inl t_order))] (fun v w => ∃ (r : Int32) (t_code' : Int32) (t_ranked' : Int32) (t_counts' : Nat → Int32) (t_scores' : Nat → Int32) (t_isIn' : Nat → Int32) (t_order' : Nat → Int32), v = some (.int r) ∧ w = [(q_t, .inr (6, [.ref q_t_m, .ref q_t_saved, .int t_savedCount, .ref q_t_text, .int t_textLength, .int t_code', .int t_at, .ref q_t_read, .int t_number, .ref q_t_counts, .ref q_t_scores, .ref q_t_isIn, .ref q_t_order, .int t_ranked', .int t_emptySide, .ref q_t_row, .ref q_t_listing, .int t_listingLength, .long t_hash])), (q_t_m, .inl (cy 0, 378, .inl t_m)), (q_t_counts, .inl (cy 0, 96, .inl t_counts')), (q_t_scores, .inl (cy 0, 16, .inl t_scores')), (q_t_isIn, .inl (cy 3, 16, .inl t_isIn')), (q_t_order, .inl (cy 0, 16, .inl t_order'))] ∧ Q r t_code' t_ranked' t_counts' t_scores' t_isIn' t_order') := by
  refine UC_of (by decide +kernel) (Nat.le_of_ble_eq_true rfl) [(0, .ref q_t), (1, .int x1)] rfl (fun p e s m args below meth c A cx => ?_)
  unfold p_X6_ranked at h
  refine v_aload_n cx dX6_ranked_0 rfl 0 rfl ?_
  refine v_iload_n cx dX6_ranked_1 rfl 1 rfl ?_
  refine v_if_ge (tgt := 9) cx dX6_ranked_2 (by decide) h (fun h => ?_) (fun h => ?_)
  · refine v_iconst (v := 0) cx dX6_ranked_9 (by decide) ?_
    refine p_X6_45 (ws' := [(q_t, .inr (6, [.ref q_t_m, .ref q_t_saved, .int t_savedCount, .ref q_t_text, .int t_textLength, .int 0, .int t_at, .ref q_t_read, .int t_number, .ref q_t_counts, .ref q_t_scores, .ref q_t_isIn, .ref q_t_order, .int t_ranked, .int t_emptySide, .ref q_t_row, .ref q_t_listing, .int t_listingLength, .long t_hash])), (q_t_m, .inl (cy 0, 378, .inl t_m)), (q_t_counts, .inl (cy 0, 96, .inl t_counts)), (q_t_scores, .inl (cy 0, 16, .inl t_scores)), (q_t_isIn, .inl (cy 3, 16, .inl t_isIn)), (q_t_order, .inl (cy 0, 16, .inl t_order))]) cx dX6_ranked_10 0 rfl rfl rfl (Nat.le_of_ble_eq_true rfl) rfl ?_
    refine v_aload_n cx dX6_ranked_13 rfl 0 rfl ?_
    refine g_X6_45 cx dX6_ranked_14 0 rfl rfl ?_
    refine v_if_eq (tgt := 22) (P1 := True) (P2 := False) cx dX6_ranked_17 (by decide) (by decide) (fun _ => ?_) (fun z => z.elim)
    refine v_aload_n cx dX6_ranked_22 rfl 0 rfl ?_
    refine v_callV (As := []) cx (c_X6_survey l g D cy q_t q_t_m q_t_saved q_t_text q_t_read q_t_counts q_t_scores q_t_isIn q_t_order q_t_row q_t_listing h) k_X6_209 (by decide) (by decide) rfl rfl (Nat.le_of_ble_eq_true rfl) dX6_ranked_23 [0, 1, 2, 3, 4, 5] [] (by decide) rfl rfl rfl (q0 := 0) rfl rfl (fun v9 w9 hp => ?_)
    refine Exists.elim hp fun u_1 hp => Exists.elim hp fun u_2 hp => Exists.elim hp fun u_3 hp => Exists.elim hp fun u_4 hp => Exists.elim hp fun u_5 hp => ?_
    obtain ⟨rfl, rfl, h⟩ := hp
    refine v_afterJ (ws' := [(q_t, .inr (6, [.ref q_t_m, .ref q_t_saved, .int t_savedCount, .ref q_t_text, .int t_textLength, .int 0, .int t_at, .ref q_t_read, .int t_number, .ref q_t_counts, .ref q_t_scores, .ref q_t_isIn, .ref q_t_order, .int u_1, .int t_emptySide, .ref q_t_row, .ref q_t_listing, .int t_listingLength, .long t_hash])), (q_t_m, .inl (cy 0, 378, .inl t_m)), (q_t_counts, .inl (cy 0, 96, .inl u_2)), (q_t_scores, .inl (cy 0, 16, .inl u_3)), (q_t_isIn, .inl (cy 3, 16, .inl u_4)), (q_t_order, .inl (cy 0, 16, .inl u_5))]) (st' := []) (ce := 0) (sl := 0) 6 [6, 7, 8, 9, 10, 11] (by decide +kernel) (by decide +kernel) rfl rfl ⟨rfl, rfl⟩ ?_
    refine v_iload_n cx dX6_ranked_26 rfl 1 rfl ?_
    refine v_aload_n cx dX6_ranked_27 rfl 0 rfl ?_
    refine g_X6_164 cx dX6_ranked_28 0 rfl rfl ?_
    refine v_icmp_ge (tgt := 43) cx dX6_ranked_31 (by decide) h (fun h => ?_) (fun h => ?_)
    · refine v_iconst (v := (-1)) cx dX6_ranked_43 (by decide) ?_
      exact v_ireturn cx rfl dX6_ranked_44 ⟨_, _, _, _, _, _, _, rfl, rfl, h⟩
    · refine v_aload_n cx dX6_ranked_34 rfl 0 rfl ?_
      refine g_X6_32 cx dX6_ranked_35 0 rfl rfl ?_
      refine v_iload_n cx dX6_ranked_38 rfl 1 rfl ?_
      refine v_iald cx dX6_ranked_39 5 rfl h (fun h => ?_)
      refine v_goto (tgt := 44) cx dX6_ranked_40 (by decide) ?_
      exact v_ireturn cx rfl dX6_ranked_44 ⟨_, _, _, _, _, _, _, rfl, rfl, h⟩
  · refine v_iconst (v := 1) cx dX6_ranked_5 (by decide) ?_
    refine v_goto (tgt := 10) cx dX6_ranked_6 (by decide) ?_
    refine p_X6_45 (ws' := [(q_t, .inr (6, [.ref q_t_m, .ref q_t_saved, .int t_savedCount, .ref q_t_text, .int t_textLength, .int 1, .int t_at, .ref q_t_read, .int t_number, .ref q_t_counts, .ref q_t_scores, .ref q_t_isIn, .ref q_t_order, .int t_ranked, .int t_emptySide, .ref q_t_row, .ref q_t_listing, .int t_listingLength, .long t_hash])), (q_t_m, .inl (cy 0, 378, .inl t_m)), (q_t_counts, .inl (cy 0, 96, .inl t_counts)), (q_t_scores, .inl (cy 0, 16, .inl t_scores)), (q_t_isIn, .inl (cy 3, 16, .inl t_isIn)), (q_t_order, .inl (cy 0, 16, .inl t_order))]) cx dX6_ranked_10 0 rfl rfl rfl (Nat.le_of_ble_eq_true rfl) rfl ?_
    refine v_aload_n cx dX6_ranked_13 rfl 0 rfl ?_
    refine g_X6_45 cx dX6_ranked_14 0 rfl rfl ?_
    refine v_if_eq (tgt := 22) (P1 := False) (P2 := True) cx dX6_ranked_17 (by decide) (by decide) (fun z => z.elim) (fun _ => ?_)
    refine v_iconst (v := 0) cx dX6_ranked_20 (by decide) ?_
    exact v_ireturn cx rfl dX6_ranked_21 ⟨_, _, _, _, _, _, _, rfl, rfl, h⟩
abbrev rm_X6_wholeOf : Room := { frames := 1, cells := 0, slots := 0, locals := 21 }
set_option maxHeartbeats 4000000 in
set_option maxRecDepth 100000 in
theorem c_X6_wholeOf (l : Launch) (g : gT) (D : va_G) (cy : Nat → ClassId) (q_t q_t_m q_t_saved q_t_text q_t_read q_t_counts q_t_scores q_t_isIn q_t_order q_t_row q_t_listing : Nat) {t_savedCount : Int32} {t_textLength : Int32} {t_code : Int32} {t_at : Int32} {t_number : Int32} {t_ranked : Int32} {t_emptySide : Int32} {t_listingLength : Int32} {t_hash : Int64} {t_m : Nat → Int32} {t_order : Nat → Int32} {t_scores : Nat → Int32} {x1 : Int32} {N : Nat} {Q : Int32 → Prop} (h : p_X6_wholeOf N t_savedCount t_textLength t_code t_at t_number t_ranked t_emptySide t_listingLength t_hash t_m t_order t_scores x1 Q) : UC l yX6_wholeOf cX6_wholeOf 2 (some .int) rm_X6_wholeOf g D cy [.ref q_t, .int x1] [(q_t, .inr (6, [.ref q_t_m, .ref q_t_saved, .int t_savedCount, .ref q_t_text, .int t_textLength, .int t_code, .int t_at, .ref q_t_read, .int t_number, .ref q_t_counts, .ref q_t_scores, .ref q_t_isIn, .ref q_t_order, .int t_ranked, .int t_emptySide, .ref q_t_row, .ref q_t_listing, .int t_listingLength, .long t_hash])), (q_t_m, .inl (cy 0, 378, .inl t_m)), (q_t_order, .inl (cy 0, 16, .inl t_order)), (q_t_scores, .inl (cy 0, 16, .inl t_scores))] (fun v w => w = [(q_t, .inr (6, [.ref q_t_m, .ref q_t_saved, .int t_savedCount, .ref q_t_text, .int t_textLength, .int t_code, .int t_at, .ref q_t_read, .int t_number, .ref q_t_counts, .ref q_t_scores, .ref q_t_isIn, .ref q_t_order, .int t_ranked, .int t_emptySide, .ref q_t_row, .ref q_t_listing, .int t_listingLength, .long t_hash])), (q_t_m, .inl (cy 0, 378, .inl t_m)), (q_t_order, .inl (cy 0, 16, .inl t_order)), (q_t_scores, .inl (cy 0, 16, .inl t_scores))] ∧ ∃ r : Int32, v = some (.int r) ∧ Q r) := by
  refine UC_of (by decide +kernel) (Nat.le_of_ble_eq_true rfl) [(0, .ref q_t), (1, .int x1)] rfl (fun p e s m args below meth c A cx => ?_)
  unfold p_X6_wholeOf at h
  refine v_iload_n cx dX6_wholeOf_0 rfl 1 rfl ?_
  by_cases hsw : x1.toInt < 0 ∨ 9 < x1.toInt
  · have h := h.1 hsw
    refine v_tableOut (tgt := 121) cx dX6_wholeOf_1 hsw (by decide) ?_
    refine v_aload_n cx dX6_wholeOf_121 rfl 0 rfl ?_
    refine g_X6_183 cx dX6_wholeOf_122 0 rfl rfl ?_
    exact v_ireturn cx rfl dX6_wholeOf_125 ⟨rfl, _, rfl, h⟩
  · have hsw : x1.toInt = 0 ∨ x1.toInt = 1 ∨ x1.toInt = 2 ∨ x1.toInt = 3 ∨ x1.toInt = 4 ∨ x1.toInt = 5 ∨ x1.toInt = 6 ∨ x1.toInt = 7 ∨ x1.toInt = 8 ∨ x1.toInt = 9 := by omega
    obtain ⟨-, h0, h1, h2, h3, h4, h5, h6, h7, h8, h9⟩ := h
    rcases hsw with hsw | hsw | hsw | hsw | hsw | hsw | hsw | hsw | hsw | hsw
    · have h := h0 hsw
      refine v_tableIn (tgt := 56) (z := 0) cx dX6_wholeOf_1 hsw ⟨by decide, by decide, rfl⟩ (by decide) ?_
      refine v_aload_n cx dX6_wholeOf_56 rfl 0 rfl ?_
      refine g_X6_7 cx dX6_wholeOf_57 0 rfl rfl ?_
      refine v_iconst (v := 0) cx dX6_wholeOf_60 (by decide) ?_
      refine v_iald cx dX6_wholeOf_61 1 rfl ⟨by unfold vp_in; decide, h⟩ (fun h => ?_)
      exact v_ireturn cx rfl dX6_wholeOf_62 ⟨rfl, _, rfl, h⟩
    · have h := h1 hsw
      refine v_tableIn (tgt := 63) (z := 1) cx dX6_wholeOf_1 hsw ⟨by decide, by decide, rfl⟩ (by decide) ?_
      refine v_aload_n cx dX6_wholeOf_63 rfl 0 rfl ?_
      refine g_X6_164 cx dX6_wholeOf_64 0 rfl rfl ?_
      exact v_ireturn cx rfl dX6_wholeOf_67 ⟨rfl, _, rfl, h⟩
    · have h := h2 hsw
      refine v_tableIn (tgt := 68) (z := 2) cx dX6_wholeOf_1 hsw ⟨by decide, by decide, rfl⟩ (by decide) ?_
      refine v_aload_n cx dX6_wholeOf_68 rfl 0 rfl ?_
      refine v_callVpi (As := []) cx (c_X6_served l g D cy q_t q_t_m q_t_saved q_t_text q_t_read q_t_counts q_t_scores q_t_isIn q_t_order q_t_row q_t_listing h) k_X6_221 (by decide) ⟨rfl, rfl⟩ (by decide) rfl rfl (Nat.le_of_ble_eq_true rfl) dX6_wholeOf_69 [0, 2] [1, 3] (by decide) (vj_all 4 rfl (by decide +kernel)) rfl rfl rfl (q0 := 0) rfl rfl (fun r_1 h => ?_)
      exact v_ireturn cx rfl dX6_wholeOf_72 ⟨rfl, _, rfl, h⟩
    · have h := h3 hsw
      refine v_tableIn (tgt := 73) (z := 3) cx dX6_wholeOf_1 hsw ⟨by decide, by decide, rfl⟩ (by decide) ?_
      refine v_aload_n cx dX6_wholeOf_73 rfl 0 rfl ?_
      refine g_X6_164 cx dX6_wholeOf_74 0 rfl rfl ?_
      refine v_if_ne (tgt := 84) cx dX6_wholeOf_77 (by decide) h (fun h => ?_) (fun h => ?_)
      · refine v_aload_n cx dX6_wholeOf_84 rfl 0 rfl ?_
        refine g_X6_25 cx dX6_wholeOf_85 0 rfl rfl ?_
        refine v_aload_n cx dX6_wholeOf_88 rfl 0 rfl ?_
        refine g_X6_32 cx dX6_wholeOf_89 0 rfl rfl ?_
        refine v_iconst (v := 0) cx dX6_wholeOf_92 (by decide) ?_
        refine v_iald cx dX6_wholeOf_93 2 rfl ⟨by unfold vp_in; decide, h⟩ (fun h => ?_)
        refine v_iald cx dX6_wholeOf_94 3 rfl h (fun h => ?_)
        exact v_ireturn cx rfl dX6_wholeOf_95 ⟨rfl, _, rfl, h⟩
      · refine v_iconst (v := 0) cx dX6_wholeOf_80 (by decide) ?_
        refine v_goto (tgt := 95) cx dX6_wholeOf_81 (by decide) ?_
        exact v_ireturn cx rfl dX6_wholeOf_95 ⟨rfl, _, rfl, h⟩
    · have h := h4 hsw
      refine v_tableIn (tgt := 96) (z := 4) cx dX6_wholeOf_1 hsw ⟨by decide, by decide, rfl⟩ (by decide) ?_
      refine v_aload_n cx dX6_wholeOf_96 rfl 0 rfl ?_
      refine v_iload_n cx dX6_wholeOf_97 rfl 1 rfl ?_
      refine v_iconst (v := 4) cx dX6_wholeOf_98 (by decide) ?_
      refine v_isub cx dX6_wholeOf_99 ?_
      refine v_callVpi (As := [.int (x1 - 4)]) cx (c_X6_entriesOf l g D cy q_t q_t_m q_t_saved q_t_text q_t_read q_t_counts q_t_scores q_t_isIn q_t_order q_t_row q_t_listing h) k_X6_138 (by decide) ⟨rfl, rfl⟩ (by decide) rfl rfl (Nat.le_of_ble_eq_true rfl) dX6_wholeOf_100 [0, 1] [2, 3] (by decide) (vj_all 4 rfl (by decide +kernel)) rfl rfl rfl (q0 := 0) rfl rfl (fun r_2 h => ?_)
      exact v_ireturn cx rfl dX6_wholeOf_103 ⟨rfl, _, rfl, h⟩
    · have h := h5 hsw
      refine v_tableIn (tgt := 96) (z := 5) cx dX6_wholeOf_1 hsw ⟨by decide, by decide, rfl⟩ (by decide) ?_
      refine v_aload_n cx dX6_wholeOf_96 rfl 0 rfl ?_
      refine v_iload_n cx dX6_wholeOf_97 rfl 1 rfl ?_
      refine v_iconst (v := 4) cx dX6_wholeOf_98 (by decide) ?_
      refine v_isub cx dX6_wholeOf_99 ?_
      refine v_callVpi (As := [.int (x1 - 4)]) cx (c_X6_entriesOf l g D cy q_t q_t_m q_t_saved q_t_text q_t_read q_t_counts q_t_scores q_t_isIn q_t_order q_t_row q_t_listing h) k_X6_138 (by decide) ⟨rfl, rfl⟩ (by decide) rfl rfl (Nat.le_of_ble_eq_true rfl) dX6_wholeOf_100 [0, 1] [2, 3] (by decide) (vj_all 4 rfl (by decide +kernel)) rfl rfl rfl (q0 := 0) rfl rfl (fun r_3 h => ?_)
      exact v_ireturn cx rfl dX6_wholeOf_103 ⟨rfl, _, rfl, h⟩
    · have h := h6 hsw
      refine v_tableIn (tgt := 104) (z := 6) cx dX6_wholeOf_1 hsw ⟨by decide, by decide, rfl⟩ (by decide) ?_
      refine v_aload_n cx dX6_wholeOf_104 rfl 0 rfl ?_
      refine g_X6_63 cx dX6_wholeOf_105 0 rfl rfl ?_
      exact v_ireturn cx rfl dX6_wholeOf_108 ⟨rfl, _, rfl, h⟩
    · have h := h7 hsw
      refine v_tableIn (tgt := 109) (z := 7) cx dX6_wholeOf_1 hsw ⟨by decide, by decide, rfl⟩ (by decide) ?_
      refine v_aload_n cx dX6_wholeOf_109 rfl 0 rfl ?_
      refine g_X6_7 cx dX6_wholeOf_110 0 rfl rfl ?_
      refine v_iconst (v := 1) cx dX6_wholeOf_113 (by decide) ?_
      refine v_iload_n cx dX6_wholeOf_114 rfl 1 rfl ?_
      refine v_iadd cx dX6_wholeOf_115 ?_
      refine v_bipush (v := 7) cx dX6_wholeOf_116 (by decide) ?_
      refine v_isub cx dX6_wholeOf_118 ?_
      refine v_iald cx dX6_wholeOf_119 1 rfl h (fun h => ?_)
      exact v_ireturn cx rfl dX6_wholeOf_120 ⟨rfl, _, rfl, h⟩
    · have h := h8 hsw
      refine v_tableIn (tgt := 109) (z := 8) cx dX6_wholeOf_1 hsw ⟨by decide, by decide, rfl⟩ (by decide) ?_
      refine v_aload_n cx dX6_wholeOf_109 rfl 0 rfl ?_
      refine g_X6_7 cx dX6_wholeOf_110 0 rfl rfl ?_
      refine v_iconst (v := 1) cx dX6_wholeOf_113 (by decide) ?_
      refine v_iload_n cx dX6_wholeOf_114 rfl 1 rfl ?_
      refine v_iadd cx dX6_wholeOf_115 ?_
      refine v_bipush (v := 7) cx dX6_wholeOf_116 (by decide) ?_
      refine v_isub cx dX6_wholeOf_118 ?_
      refine v_iald cx dX6_wholeOf_119 1 rfl h (fun h => ?_)
      exact v_ireturn cx rfl dX6_wholeOf_120 ⟨rfl, _, rfl, h⟩
    · have h := h9 hsw
      refine v_tableIn (tgt := 109) (z := 9) cx dX6_wholeOf_1 hsw ⟨by decide, by decide, rfl⟩ (by decide) ?_
      refine v_aload_n cx dX6_wholeOf_109 rfl 0 rfl ?_
      refine g_X6_7 cx dX6_wholeOf_110 0 rfl rfl ?_
      refine v_iconst (v := 1) cx dX6_wholeOf_113 (by decide) ?_
      refine v_iload_n cx dX6_wholeOf_114 rfl 1 rfl ?_
      refine v_iadd cx dX6_wholeOf_115 ?_
      refine v_bipush (v := 7) cx dX6_wholeOf_116 (by decide) ?_
      refine v_isub cx dX6_wholeOf_118 ?_
      refine v_iald cx dX6_wholeOf_119 1 rfl h (fun h => ?_)
      exact v_ireturn cx rfl dX6_wholeOf_120 ⟨rfl, _, rfl, h⟩
abbrev rm_X6_whole : Room := { frames := 6, cells := 0, slots := 0, locals := 134 }
set_option maxHeartbeats 4000000 in
set_option maxRecDepth 100000 in
theorem c_X6_whole (l : Launch) (g : gT) (D : va_G) (cy : Nat → ClassId) (q_t q_t_m q_t_saved q_t_text q_t_read q_t_counts q_t_scores q_t_isIn q_t_order q_t_row q_t_listing : Nat) {t_savedCount : Int32} {t_textLength : Int32} {t_code : Int32} {t_at : Int32} {t_number : Int32} {t_ranked : Int32} {t_emptySide : Int32} {t_listingLength : Int32} {t_hash : Int64} {t_m : Nat → Int32} {t_counts : Nat → Int32} {t_scores : Nat → Int32} {t_isIn : Nat → Int32} {t_order : Nat → Int32} {t_row : Nat → Int32} {t_listing : Nat → Int32} {x1 : Int32} {N : Nat} {Q : Int32 → Int32 → Int32 → Int32 → (Nat → Int32) → (Nat → Int32) → (Nat → Int32) → (Nat → Int32) → (Nat → Int32) → (Nat → Int32) → Prop} (h : p_X6_whole N t_savedCount t_textLength t_code t_at t_number t_ranked t_emptySide t_listingLength t_hash t_m t_counts t_scores t_isIn t_order t_row t_listing x1 Q) : UC l yX6_whole cX6_whole 2 (some .int) rm_X6_whole g D cy [.ref q_t, .int x1] [(q_t, .inr (6, [.ref q_t_m, .ref q_t_saved, .int t_savedCount, .ref q_t_text, .int t_textLength, .int t_code, .int t_at, .ref q_t_read, .int t_number, .ref q_t_counts, .ref q_t_scores, .ref q_t_isIn, .ref q_t_order, .int t_ranked, .int t_emptySide, .ref q_t_row, .ref q_t_listing, .int t_listingLength, .long t_hash])), (q_t_m, .inl (cy 0, 378, .inl t_m)), (q_t_counts, .inl (cy 0, 96, .inl t_counts)), (q_t_scores, .inl (cy 0, 16, .inl t_scores)), (q_t_isIn, .inl (cy 3, 16, .inl t_isIn)), (q_t_order, .inl (cy 0, 16, .inl t_order)), (q_t_row, .inl (cy 0, 16, .inl t_row)), (q_t_listing, .inl (cy 0, 800, .inl t_listing))] (fun v w => ∃ (r : Int32) (t_code' : Int32) (t_ranked' : Int32) (t_listingLength' : Int32) (t_counts' : Nat → Int32) (t_scores' : Nat → Int32) (t_isIn' : Nat → Int32) (t_order' : Nat → Int32) (t_row' : Nat → Int32) (t_listing' : Nat → Int32), v = some (.int r) ∧ w = [(q_t, .inr (6, [.ref q_t_m, .ref q_t_saved, .int t_savedCount, .ref q_t_text, .int t_textLength, .int t_code', .int t_at, .ref q_t_read, .int t_number, .ref q_t_counts, .ref q_t_scores, .ref q_t_isIn, .ref q_t_order, .int t_ranked', .int t_emptySide, .ref q_t_row, .ref q_t_listing, .int t_listingLength', .long t_hash])), (q_t_m, .inl (cy 0, 378, .inl t_m)), (q_t_counts, .inl (cy 0, 96, .inl t_counts')), (q_t_scores, .inl (cy 0, 16, .inl t_scores')), (q_t_isIn, .inl (cy 3, 16, .inl t_isIn')), (q_t_order, .inl (cy 0, 16, .inl t_order')), (q_t_row, .inl (cy 0, 16, .inl t_row')), (q_t_listing, .inl (cy 0, 800, .inl t_listing'))] ∧ Q r t_code' t_ranked' t_listingLength' t_counts' t_scores' t_isIn' t_order' t_row' t_listing') := by
  refine UC_of (by decide +kernel) (Nat.le_of_ble_eq_true rfl) [(0, .ref q_t), (1, .int x1)] rfl (fun p e s m args below meth c A cx => ?_)
  unfold p_X6_whole at h
  refine v_aload_n cx dX6_whole_0 rfl 0 rfl ?_
  refine v_iload_n cx dX6_whole_1 rfl 1 rfl ?_
  refine v_iconst (v := 0) cx dX6_whole_2 (by decide) ?_
  refine v_bipush (v := 10) cx dX6_whole_3 (by decide) ?_
  refine v_callSpi (As := [.int x1, .int 0, .int 10]) cx (c_X6_in l g D cy  h) k_X6_51 (by decide) ⟨rfl, rfl⟩ (by decide) rfl rfl (Nat.le_of_ble_eq_true rfl) dX6_whole_5 [] [0, 1, 2, 3, 4, 5, 6, 7] (by decide) (vj_all 8 rfl (by decide +kernel)) rfl rfl rfl (fun r_1 h => ?_)
  refine v_if_eq (tgt := 15) cx dX6_whole_8 (by decide) h (fun h => ?_) (fun h => ?_)
  · refine v_iconst (v := 1) cx dX6_whole_15 (by decide) ?_
    refine p_X6_45 (ws' := [(q_t, .inr (6, [.ref q_t_m, .ref q_t_saved, .int t_savedCount, .ref q_t_text, .int t_textLength, .int 1, .int t_at, .ref q_t_read, .int t_number, .ref q_t_counts, .ref q_t_scores, .ref q_t_isIn, .ref q_t_order, .int t_ranked, .int t_emptySide, .ref q_t_row, .ref q_t_listing, .int t_listingLength, .long t_hash])), (q_t_m, .inl (cy 0, 378, .inl t_m)), (q_t_counts, .inl (cy 0, 96, .inl t_counts)), (q_t_scores, .inl (cy 0, 16, .inl t_scores)), (q_t_isIn, .inl (cy 3, 16, .inl t_isIn)), (q_t_order, .inl (cy 0, 16, .inl t_order)), (q_t_row, .inl (cy 0, 16, .inl t_row)), (q_t_listing, .inl (cy 0, 800, .inl t_listing))]) cx dX6_whole_16 0 rfl rfl rfl (Nat.le_of_ble_eq_true rfl) rfl ?_
    refine v_aload_n cx dX6_whole_19 rfl 0 rfl ?_
    refine g_X6_45 cx dX6_whole_20 0 rfl rfl ?_
    refine v_if_eq (tgt := 28) (P1 := False) (P2 := True) cx dX6_whole_23 (by decide) (by decide) (fun z => z.elim) (fun _ => ?_)
    refine v_iconst (v := 0) cx dX6_whole_26 (by decide) ?_
    exact v_ireturn cx rfl dX6_whole_27 ⟨_, _, _, _, _, _, _, _, _, _, rfl, rfl, h⟩
  · refine v_iconst (v := 0) cx dX6_whole_11 (by decide) ?_
    refine v_goto (tgt := 16) cx dX6_whole_12 (by decide) ?_
    refine p_X6_45 (ws' := [(q_t, .inr (6, [.ref q_t_m, .ref q_t_saved, .int t_savedCount, .ref q_t_text, .int t_textLength, .int 0, .int t_at, .ref q_t_read, .int t_number, .ref q_t_counts, .ref q_t_scores, .ref q_t_isIn, .ref q_t_order, .int t_ranked, .int t_emptySide, .ref q_t_row, .ref q_t_listing, .int t_listingLength, .long t_hash])), (q_t_m, .inl (cy 0, 378, .inl t_m)), (q_t_counts, .inl (cy 0, 96, .inl t_counts)), (q_t_scores, .inl (cy 0, 16, .inl t_scores)), (q_t_isIn, .inl (cy 3, 16, .inl t_isIn)), (q_t_order, .inl (cy 0, 16, .inl t_order)), (q_t_row, .inl (cy 0, 16, .inl t_row)), (q_t_listing, .inl (cy 0, 800, .inl t_listing))]) cx dX6_whole_16 0 rfl rfl rfl (Nat.le_of_ble_eq_true rfl) rfl ?_
    refine v_aload_n cx dX6_whole_19 rfl 0 rfl ?_
    refine g_X6_45 cx dX6_whole_20 0 rfl rfl ?_
    refine v_if_eq (tgt := 28) (P1 := True) (P2 := False) cx dX6_whole_23 (by decide) (by decide) (fun _ => ?_) (fun z => z.elim)
    refine v_aload_n cx dX6_whole_28 rfl 0 rfl ?_
    refine v_callV (As := []) cx (c_X6_survey l g D cy q_t q_t_m q_t_saved q_t_text q_t_read q_t_counts q_t_scores q_t_isIn q_t_order q_t_row q_t_listing h) k_X6_209 (by decide) (by decide) rfl rfl (Nat.le_of_ble_eq_true rfl) dX6_whole_29 [0, 1, 2, 3, 4, 5] [6, 7] (by decide) rfl rfl rfl (q0 := 0) rfl rfl (fun v9 w9 hp => ?_)
    refine Exists.elim hp fun u_2 hp => Exists.elim hp fun u_3 hp => Exists.elim hp fun u_4 hp => Exists.elim hp fun u_5 hp => Exists.elim hp fun u_6 hp => ?_
    obtain ⟨rfl, rfl, h⟩ := hp
    refine v_afterJ (ws' := [(q_t, .inr (6, [.ref q_t_m, .ref q_t_saved, .int t_savedCount, .ref q_t_text, .int t_textLength, .int 0, .int t_at, .ref q_t_read, .int t_number, .ref q_t_counts, .ref q_t_scores, .ref q_t_isIn, .ref q_t_order, .int u_2, .int t_emptySide, .ref q_t_row, .ref q_t_listing, .int t_listingLength, .long t_hash])), (q_t_m, .inl (cy 0, 378, .inl t_m)), (q_t_counts, .inl (cy 0, 96, .inl u_3)), (q_t_scores, .inl (cy 0, 16, .inl u_4)), (q_t_isIn, .inl (cy 3, 16, .inl u_5)), (q_t_order, .inl (cy 0, 16, .inl u_6)), (q_t_row, .inl (cy 0, 16, .inl t_row)), (q_t_listing, .inl (cy 0, 800, .inl t_listing))]) (st' := []) (ce := 0) (sl := 0) 8 [8, 9, 10, 11, 12, 13, 6, 7] (by decide +kernel) (by decide +kernel) rfl rfl ⟨rfl, rfl⟩ ?_
    refine v_aload_n cx dX6_whole_32 rfl 0 rfl ?_
    refine v_callV (As := []) cx (c_X6_writeListing l g D cy q_t q_t_m q_t_saved q_t_text q_t_read q_t_counts q_t_scores q_t_isIn q_t_order q_t_row q_t_listing h) k_X6_224 (by decide) (by decide) rfl rfl (Nat.le_of_ble_eq_true rfl) dX6_whole_33 [0, 1, 6, 7] [2, 3, 4, 5] (by decide) rfl rfl rfl (q0 := 0) rfl rfl (fun v9 w9 hp => ?_)
    obtain ⟨u_7, u_8, u_9, rfl, rfl, h⟩ := hp
    refine v_afterJ (ws' := [(q_t, .inr (6, [.ref q_t_m, .ref q_t_saved, .int t_savedCount, .ref q_t_text, .int t_textLength, .int 0, .int t_at, .ref q_t_read, .int t_number, .ref q_t_counts, .ref q_t_scores, .ref q_t_isIn, .ref q_t_order, .int u_2, .int t_emptySide, .ref q_t_row, .ref q_t_listing, .int u_7, .long t_hash])), (q_t_m, .inl (cy 0, 378, .inl t_m)), (q_t_counts, .inl (cy 0, 96, .inl u_3)), (q_t_scores, .inl (cy 0, 16, .inl u_4)), (q_t_isIn, .inl (cy 3, 16, .inl u_5)), (q_t_order, .inl (cy 0, 16, .inl u_6)), (q_t_row, .inl (cy 0, 16, .inl u_8)), (q_t_listing, .inl (cy 0, 800, .inl u_9))]) (st' := []) (ce := 0) (sl := 0) 8 [8, 9, 2, 3, 4, 5, 10, 11] (by decide +kernel) (by decide +kernel) rfl rfl ⟨rfl, rfl⟩ ?_
    refine v_aload_n cx dX6_whole_36 rfl 0 rfl ?_
    refine v_iload_n cx dX6_whole_37 rfl 1 rfl ?_
    refine v_callVpi (As := [.int x1]) cx (c_X6_wholeOf l g D cy q_t q_t_m q_t_saved q_t_text q_t_read q_t_counts q_t_scores q_t_isIn q_t_order q_t_row q_t_listing h) k_X6_227 (by decide) ⟨rfl, rfl⟩ (by decide) rfl rfl (Nat.le_of_ble_eq_true rfl) dX6_whole_38 [0, 1, 5, 3] [2, 4, 6, 7] (by decide) (vj_all 8 rfl (by decide +kernel)) rfl rfl rfl (q0 := 0) rfl rfl (fun r_10 h => ?_)
    exact v_ireturn cx rfl dX6_whole_41 ⟨_, _, _, _, _, _, _, _, _, _, rfl, rfl, h⟩
abbrev rm_X6_listed : Room := { frames := 3, cells := 0, slots := 0, locals := 67 }
set_option maxHeartbeats 4000000 in
set_option maxRecDepth 100000 in
theorem c_X6_listed (l : Launch) (g : gT) (D : va_G) (cy : Nat → ClassId) (q_t q_t_m q_t_saved q_t_text q_t_read q_t_counts q_t_scores q_t_isIn q_t_order q_t_row q_t_listing : Nat) {t_savedCount : Int32} {t_textLength : Int32} {t_code : Int32} {t_at : Int32} {t_number : Int32} {t_ranked : Int32} {t_emptySide : Int32} {t_listingLength : Int32} {t_hash : Int64} {t_m : Nat → Int32} {t_row : Nat → Int32} {x1 : Int32} {N : Nat} {Q : Int32 → Int32 → (Nat → Int32) → Prop} (h : p_X6_listed N t_savedCount t_textLength t_code t_at t_number t_ranked t_emptySide t_listingLength t_hash t_m t_row x1 Q) : UC l yX6_listed cX6_listed 2 (some .int) rm_X6_listed g D cy [.ref q_t, .int x1] [(q_t, .inr (6, [.ref q_t_m, .ref q_t_saved, .int t_savedCount, .ref q_t_text, .int t_textLength, .int t_code, .int t_at, .ref q_t_read, .int t_number, .ref q_t_counts, .ref q_t_scores, .ref q_t_isIn, .ref q_t_order, .int t_ranked, .int t_emptySide, .ref q_t_row, .ref q_t_listing, .int t_listingLength, .long t_hash])), (q_t_m, .inl (cy 0, 378, .inl t_m)), (q_t_row, .inl (cy 0, 16, .inl t_row))] (fun v w => ∃ (r : Int32) (t_code' : Int32) (t_row' : Nat → Int32), v = some (.int r) ∧ w = [(q_t, .inr (6, [.ref q_t_m, .ref q_t_saved, .int t_savedCount, .ref q_t_text, .int t_textLength, .int t_code', .int t_at, .ref q_t_read, .int t_number, .ref q_t_counts, .ref q_t_scores, .ref q_t_isIn, .ref q_t_order, .int t_ranked, .int t_emptySide, .ref q_t_row, .ref q_t_listing, .int t_listingLength, .long t_hash])), (q_t_m, .inl (cy 0, 378, .inl t_m)), (q_t_row, .inl (cy 0, 16, .inl t_row'))] ∧ Q r t_code' t_row') := by
  refine UC_of (by decide +kernel) (Nat.le_of_ble_eq_true rfl) [(0, .ref q_t), (1, .int x1)] rfl (fun p e s m args below meth c A cx => ?_)
  unfold p_X6_listed at h
  refine v_aload_n cx dX6_listed_0 rfl 0 rfl ?_
  refine v_iload_n cx dX6_listed_1 rfl 1 rfl ?_
  refine v_if_ge (tgt := 9) cx dX6_listed_2 (by decide) h (fun h => ?_) (fun h => ?_)
  · refine v_iconst (v := 0) cx dX6_listed_9 (by decide) ?_
    refine p_X6_45 (ws' := [(q_t, .inr (6, [.ref q_t_m, .ref q_t_saved, .int t_savedCount, .ref q_t_text, .int t_textLength, .int 0, .int t_at, .ref q_t_read, .int t_number, .ref q_t_counts, .ref q_t_scores, .ref q_t_isIn, .ref q_t_order, .int t_ranked, .int t_emptySide, .ref q_t_row, .ref q_t_listing, .int t_listingLength, .long t_hash])), (q_t_m, .inl (cy 0, 378, .inl t_m)), (q_t_row, .inl (cy 0, 16, .inl t_row))]) cx dX6_listed_10 0 rfl rfl rfl (Nat.le_of_ble_eq_true rfl) rfl ?_
    refine v_aload_n cx dX6_listed_13 rfl 0 rfl ?_
    refine g_X6_45 cx dX6_listed_14 0 rfl rfl ?_
    refine v_if_eq (tgt := 22) (P1 := True) (P2 := False) cx dX6_listed_17 (by decide) (by decide) (fun _ => ?_) (fun z => z.elim)
    refine v_aload_n cx dX6_listed_22 rfl 0 rfl ?_
    refine v_callV (As := []) cx (c_X6_list l g D cy q_t q_t_m q_t_saved q_t_text q_t_read q_t_counts q_t_scores q_t_isIn q_t_order q_t_row q_t_listing h) k_X6_193 (by decide) (by decide) rfl rfl (Nat.le_of_ble_eq_true rfl) dX6_listed_23 [0, 1, 2] [] (by decide) rfl rfl rfl (q0 := 0) rfl rfl (fun v9 w9 hp => ?_)
    obtain ⟨u_1, rfl, rfl, h⟩ := hp
    refine v_afterJ (ws' := [(q_t, .inr (6, [.ref q_t_m, .ref q_t_saved, .int t_savedCount, .ref q_t_text, .int t_textLength, .int 0, .int t_at, .ref q_t_read, .int t_number, .ref q_t_counts, .ref q_t_scores, .ref q_t_isIn, .ref q_t_order, .int t_ranked, .int t_emptySide, .ref q_t_row, .ref q_t_listing, .int t_listingLength, .long t_hash])), (q_t_m, .inl (cy 0, 378, .inl t_m)), (q_t_row, .inl (cy 0, 16, .inl u_1))]) (st' := []) (ce := 0) (sl := 0) 3 [3, 4, 5] (by decide +kernel) (by decide +kernel) rfl rfl ⟨rfl, rfl⟩ ?_
    refine v_iload_n cx dX6_listed_26 rfl 1 rfl ?_
    refine v_aload_n cx dX6_listed_27 rfl 0 rfl ?_
    refine g_X6_7 cx dX6_listed_28 0 rfl rfl ?_
    refine v_iconst (v := 0) cx dX6_listed_31 (by decide) ?_
    refine v_iald cx dX6_listed_32 1 rfl ⟨by unfold vp_in; decide, h⟩ (fun h => ?_)
    refine v_icmp_ge (tgt := 45) cx dX6_listed_33 (by decide) h (fun h => ?_) (fun h => ?_)
    · refine v_iconst (v := (-1)) cx dX6_listed_45 (by decide) ?_
      exact v_ireturn cx rfl dX6_listed_46 ⟨_, _, _, rfl, rfl, h⟩
    · refine v_aload_n cx dX6_listed_36 rfl 0 rfl ?_
      refine g_X6_39 cx dX6_listed_37 0 rfl rfl ?_
      refine v_iload_n cx dX6_listed_40 rfl 1 rfl ?_
      refine v_iald cx dX6_listed_41 2 rfl h (fun h => ?_)
      refine v_goto (tgt := 46) cx dX6_listed_42 (by decide) ?_
      exact v_ireturn cx rfl dX6_listed_46 ⟨_, _, _, rfl, rfl, h⟩
  · refine v_iconst (v := 1) cx dX6_listed_5 (by decide) ?_
    refine v_goto (tgt := 10) cx dX6_listed_6 (by decide) ?_
    refine p_X6_45 (ws' := [(q_t, .inr (6, [.ref q_t_m, .ref q_t_saved, .int t_savedCount, .ref q_t_text, .int t_textLength, .int 1, .int t_at, .ref q_t_read, .int t_number, .ref q_t_counts, .ref q_t_scores, .ref q_t_isIn, .ref q_t_order, .int t_ranked, .int t_emptySide, .ref q_t_row, .ref q_t_listing, .int t_listingLength, .long t_hash])), (q_t_m, .inl (cy 0, 378, .inl t_m)), (q_t_row, .inl (cy 0, 16, .inl t_row))]) cx dX6_listed_10 0 rfl rfl rfl (Nat.le_of_ble_eq_true rfl) rfl ?_
    refine v_aload_n cx dX6_listed_13 rfl 0 rfl ?_
    refine g_X6_45 cx dX6_listed_14 0 rfl rfl ?_
    refine v_if_eq (tgt := 22) (P1 := False) (P2 := True) cx dX6_listed_17 (by decide) (by decide) (fun z => z.elim) (fun _ => ?_)
    refine v_iconst (v := 0) cx dX6_listed_20 (by decide) ?_
    exact v_ireturn cx rfl dX6_listed_21 ⟨_, _, _, rfl, rfl, h⟩
abbrev rm_X6_listingByte : Room := { frames := 4, cells := 0, slots := 0, locals := 88 }
set_option maxHeartbeats 4000000 in
set_option maxRecDepth 100000 in
theorem c_X6_listingByte (l : Launch) (g : gT) (D : va_G) (cy : Nat → ClassId) (q_t q_t_m q_t_saved q_t_text q_t_read q_t_counts q_t_scores q_t_isIn q_t_order q_t_row q_t_listing : Nat) {t_savedCount : Int32} {t_textLength : Int32} {t_code : Int32} {t_at : Int32} {t_number : Int32} {t_ranked : Int32} {t_emptySide : Int32} {t_listingLength : Int32} {t_hash : Int64} {t_m : Nat → Int32} {t_row : Nat → Int32} {t_listing : Nat → Int32} {x1 : Int32} {N : Nat} {Q : Int32 → Int32 → Int32 → (Nat → Int32) → (Nat → Int32) → Prop} (h : p_X6_listingByte N t_savedCount t_textLength t_code t_at t_number t_ranked t_emptySide t_listingLength t_hash t_m t_row t_listing x1 Q) : UC l yX6_listingByte cX6_listingByte 2 (some .int) rm_X6_listingByte g D cy [.ref q_t, .int x1] [(q_t, .inr (6, [.ref q_t_m, .ref q_t_saved, .int t_savedCount, .ref q_t_text, .int t_textLength, .int t_code, .int t_at, .ref q_t_read, .int t_number, .ref q_t_counts, .ref q_t_scores, .ref q_t_isIn, .ref q_t_order, .int t_ranked, .int t_emptySide, .ref q_t_row, .ref q_t_listing, .int t_listingLength, .long t_hash])), (q_t_m, .inl (cy 0, 378, .inl t_m)), (q_t_row, .inl (cy 0, 16, .inl t_row)), (q_t_listing, .inl (cy 0, 800, .inl t_listing))] (fun v w => ∃ (r : Int32) (t_code' : Int32) (t_listingLength' : Int32) (t_row' : Nat → Int32) (t_listing' : Nat → Int32), v = some (.int r) ∧ w = [(q_t, .inr (6, [.ref q_t_m, .ref q_t_saved, .int t_savedCount, .ref q_t_text, .int t_textLength, .int t_code', .int t_at, .ref q_t_read, .int t_number, .ref q_t_counts, .ref q_t_scores, .ref q_t_isIn, .ref q_t_order, .int t_ranked, .int t_emptySide, .ref q_t_row, .ref q_t_listing, .int t_listingLength', .long t_hash])), (q_t_m, .inl (cy 0, 378, .inl t_m)), (q_t_row, .inl (cy 0, 16, .inl t_row')), (q_t_listing, .inl (cy 0, 800, .inl t_listing'))] ∧ Q r t_code' t_listingLength' t_row' t_listing') := by
  refine UC_of (by decide +kernel) (Nat.le_of_ble_eq_true rfl) [(0, .ref q_t), (1, .int x1)] rfl (fun p e s m args below meth c A cx => ?_)
  unfold p_X6_listingByte at h
  refine v_aload_n cx dX6_listingByte_0 rfl 0 rfl ?_
  refine v_iload_n cx dX6_listingByte_1 rfl 1 rfl ?_
  refine v_if_ge (tgt := 9) cx dX6_listingByte_2 (by decide) h (fun h => ?_) (fun h => ?_)
  · refine v_iconst (v := 0) cx dX6_listingByte_9 (by decide) ?_
    refine p_X6_45 (ws' := [(q_t, .inr (6, [.ref q_t_m, .ref q_t_saved, .int t_savedCount, .ref q_t_text, .int t_textLength, .int 0, .int t_at, .ref q_t_read, .int t_number, .ref q_t_counts, .ref q_t_scores, .ref q_t_isIn, .ref q_t_order, .int t_ranked, .int t_emptySide, .ref q_t_row, .ref q_t_listing, .int t_listingLength, .long t_hash])), (q_t_m, .inl (cy 0, 378, .inl t_m)), (q_t_row, .inl (cy 0, 16, .inl t_row)), (q_t_listing, .inl (cy 0, 800, .inl t_listing))]) cx dX6_listingByte_10 0 rfl rfl rfl (Nat.le_of_ble_eq_true rfl) rfl ?_
    refine v_aload_n cx dX6_listingByte_13 rfl 0 rfl ?_
    refine g_X6_45 cx dX6_listingByte_14 0 rfl rfl ?_
    refine v_if_eq (tgt := 22) (P1 := True) (P2 := False) cx dX6_listingByte_17 (by decide) (by decide) (fun _ => ?_) (fun z => z.elim)
    refine v_aload_n cx dX6_listingByte_22 rfl 0 rfl ?_
    refine v_callV (As := []) cx (c_X6_writeListing l g D cy q_t q_t_m q_t_saved q_t_text q_t_read q_t_counts q_t_scores q_t_isIn q_t_order q_t_row q_t_listing h) k_X6_224 (by decide) (by decide) rfl rfl (Nat.le_of_ble_eq_true rfl) dX6_listingByte_23 [0, 1, 2, 3] [] (by decide) rfl rfl rfl (q0 := 0) rfl rfl (fun v9 w9 hp => ?_)
    obtain ⟨u_1, u_2, u_3, rfl, rfl, h⟩ := hp
    refine v_afterJ (ws' := [(q_t, .inr (6, [.ref q_t_m, .ref q_t_saved, .int t_savedCount, .ref q_t_text, .int t_textLength, .int 0, .int t_at, .ref q_t_read, .int t_number, .ref q_t_counts, .ref q_t_scores, .ref q_t_isIn, .ref q_t_order, .int t_ranked, .int t_emptySide, .ref q_t_row, .ref q_t_listing, .int u_1, .long t_hash])), (q_t_m, .inl (cy 0, 378, .inl t_m)), (q_t_row, .inl (cy 0, 16, .inl u_2)), (q_t_listing, .inl (cy 0, 800, .inl u_3))]) (st' := []) (ce := 0) (sl := 0) 4 [4, 5, 6, 7] (by decide +kernel) (by decide +kernel) rfl rfl ⟨rfl, rfl⟩ ?_
    refine v_iload_n cx dX6_listingByte_26 rfl 1 rfl ?_
    refine v_aload_n cx dX6_listingByte_27 rfl 0 rfl ?_
    refine g_X6_183 cx dX6_listingByte_28 0 rfl rfl ?_
    refine v_icmp_ge (tgt := 43) cx dX6_listingByte_31 (by decide) h (fun h => ?_) (fun h => ?_)
    · refine v_iconst (v := (-1)) cx dX6_listingByte_43 (by decide) ?_
      exact v_ireturn cx rfl dX6_listingByte_44 ⟨_, _, _, _, _, rfl, rfl, h⟩
    · refine v_aload_n cx dX6_listingByte_34 rfl 0 rfl ?_
      refine g_X6_42 cx dX6_listingByte_35 0 rfl rfl ?_
      refine v_iload_n cx dX6_listingByte_38 rfl 1 rfl ?_
      refine v_iald cx dX6_listingByte_39 3 rfl h (fun h => ?_)
      refine v_goto (tgt := 44) cx dX6_listingByte_40 (by decide) ?_
      exact v_ireturn cx rfl dX6_listingByte_44 ⟨_, _, _, _, _, rfl, rfl, h⟩
  · refine v_iconst (v := 1) cx dX6_listingByte_5 (by decide) ?_
    refine v_goto (tgt := 10) cx dX6_listingByte_6 (by decide) ?_
    refine p_X6_45 (ws' := [(q_t, .inr (6, [.ref q_t_m, .ref q_t_saved, .int t_savedCount, .ref q_t_text, .int t_textLength, .int 1, .int t_at, .ref q_t_read, .int t_number, .ref q_t_counts, .ref q_t_scores, .ref q_t_isIn, .ref q_t_order, .int t_ranked, .int t_emptySide, .ref q_t_row, .ref q_t_listing, .int t_listingLength, .long t_hash])), (q_t_m, .inl (cy 0, 378, .inl t_m)), (q_t_row, .inl (cy 0, 16, .inl t_row)), (q_t_listing, .inl (cy 0, 800, .inl t_listing))]) cx dX6_listingByte_10 0 rfl rfl rfl (Nat.le_of_ble_eq_true rfl) rfl ?_
    refine v_aload_n cx dX6_listingByte_13 rfl 0 rfl ?_
    refine g_X6_45 cx dX6_listingByte_14 0 rfl rfl ?_
    refine v_if_eq (tgt := 22) (P1 := False) (P2 := True) cx dX6_listingByte_17 (by decide) (by decide) (fun z => z.elim) (fun _ => ?_)
    refine v_iconst (v := 0) cx dX6_listingByte_20 (by decide) ?_
    exact v_ireturn cx rfl dX6_listingByte_21 ⟨_, _, _, _, _, rfl, rfl, h⟩
abbrev rm_X6_servedBy : Room := { frames := 5, cells := 0, slots := 0, locals := 114 }
set_option maxHeartbeats 4000000 in
set_option maxRecDepth 100000 in
theorem c_X6_servedBy (l : Launch) (g : gT) (D : va_G) (cy : Nat → ClassId) (q_t q_t_m q_t_saved q_t_text q_t_read q_t_counts q_t_scores q_t_isIn q_t_order q_t_row q_t_listing : Nat) {t_savedCount : Int32} {t_textLength : Int32} {t_code : Int32} {t_at : Int32} {t_number : Int32} {t_ranked : Int32} {t_emptySide : Int32} {t_listingLength : Int32} {t_hash : Int64} {t_m : Nat → Int32} {t_counts : Nat → Int32} {t_scores : Nat → Int32} {t_isIn : Nat → Int32} {t_order : Nat → Int32} {x1 : Int32} {N : Nat} {Q : Int32 → Int32 → Int32 → (Nat → Int32) → (Nat → Int32) → (Nat → Int32) → (Nat → Int32) → Prop} (h : p_X6_servedBy N t_savedCount t_textLength t_code t_at t_number t_ranked t_emptySide t_listingLength t_hash t_m t_counts t_scores t_isIn t_order x1 Q) : UC l yX6_servedBy cX6_servedBy 2 (some .int) rm_X6_servedBy g D cy [.ref q_t, .int x1] [(q_t, .inr (6, [.ref q_t_m, .ref q_t_saved, .int t_savedCount, .ref q_t_text, .int t_textLength, .int t_code, .int t_at, .ref q_t_read, .int t_number, .ref q_t_counts, .ref q_t_scores, .ref q_t_isIn, .ref q_t_order, .int t_ranked, .int t_emptySide, .ref q_t_row, .ref q_t_listing, .int t_listingLength, .long t_hash])), (q_t_m, .inl (cy 0, 378, .inl t_m)), (q_t_counts, .inl (cy 0, 96, .inl t_counts)), (q_t_scores, .inl (cy 0, 16, .inl t_scores)), (q_t_isIn, .inl (cy 3, 16, .inl t_isIn)), (q_t_order, .inl (cy 0, 16, .inl t_order))] (fun v w => ∃ (r : Int32) (t_ranked' : Int32) (t_emptySide' : Int32) (t_counts' : Nat → Int32) (t_scores' : Nat → Int32) (t_isIn' : Nat → Int32) (t_order' : Nat → Int32), v = some (.int r) ∧ w = [(q_t, .inr (6, [.ref q_t_m, .ref q_t_saved, .int t_savedCount, .ref q_t_text, .int t_textLength, .int t_code, .int t_at, .ref q_t_read, .int t_number, .ref q_t_counts, .ref q_t_scores, .ref q_t_isIn, .ref q_t_order, .int t_ranked', .int t_emptySide', .ref q_t_row, .ref q_t_listing, .int t_listingLength, .long t_hash])), (q_t_m, .inl (cy 0, 378, .inl t_m)), (q_t_counts, .inl (cy 0, 96, .inl t_counts')), (q_t_scores, .inl (cy 0, 16, .inl t_scores')), (q_t_isIn, .inl (cy 3, 16, .inl t_isIn')), (q_t_order, .inl (cy 0, 16, .inl t_order'))] ∧ Q r t_ranked' t_emptySide' t_counts' t_scores' t_isIn' t_order') := by
  refine UC_of (by decide +kernel) (Nat.le_of_ble_eq_true rfl) [(0, .ref q_t), (1, .int x1)] rfl (fun p e s m args below meth c A cx => ?_)
  unfold p_X6_servedBy at h
  refine v_aload_n cx dX6_servedBy_0 rfl 0 rfl ?_
  refine v_callV (As := []) cx (c_X6_count l g D cy q_t q_t_m q_t_saved q_t_text q_t_read q_t_counts q_t_scores q_t_isIn q_t_order q_t_row q_t_listing h) k_X6_173 (by decide) (by decide) rfl rfl (Nat.le_of_ble_eq_true rfl) dX6_servedBy_1 [0, 1, 2] [3, 4, 5] (by decide) rfl rfl rfl (q0 := 0) rfl rfl (fun v9 w9 hp => ?_)
  obtain ⟨u_1, rfl, rfl, h⟩ := hp
  refine v_afterJ (ws' := [(q_t, .inr (6, [.ref q_t_m, .ref q_t_saved, .int t_savedCount, .ref q_t_text, .int t_textLength, .int t_code, .int t_at, .ref q_t_read, .int t_number, .ref q_t_counts, .ref q_t_scores, .ref q_t_isIn, .ref q_t_order, .int t_ranked, .int t_emptySide, .ref q_t_row, .ref q_t_listing, .int t_listingLength, .long t_hash])), (q_t_m, .inl (cy 0, 378, .inl t_m)), (q_t_counts, .inl (cy 0, 96, .inl u_1)), (q_t_scores, .inl (cy 0, 16, .inl t_scores)), (q_t_isIn, .inl (cy 3, 16, .inl t_isIn)), (q_t_order, .inl (cy 0, 16, .inl t_order))]) (st' := []) (ce := 0) (sl := 0) 6 [6, 7, 8, 3, 4, 5] (by decide +kernel) (by decide +kernel) rfl rfl ⟨rfl, rfl⟩ ?_
  refine v_aload_n cx dX6_servedBy_4 rfl 0 rfl ?_
  refine v_iconst (v := 1) cx dX6_servedBy_5 (by decide) ?_
  refine v_iload_n cx dX6_servedBy_6 rfl 1 rfl ?_
  refine v_isub cx dX6_servedBy_7 ?_
  refine p_X6_35 (ws' := [(q_t, .inr (6, [.ref q_t_m, .ref q_t_saved, .int t_savedCount, .ref q_t_text, .int t_textLength, .int t_code, .int t_at, .ref q_t_read, .int t_number, .ref q_t_counts, .ref q_t_scores, .ref q_t_isIn, .ref q_t_order, .int t_ranked, .int (1 - x1), .ref q_t_row, .ref q_t_listing, .int t_listingLength, .long t_hash])), (q_t_m, .inl (cy 0, 378, .inl t_m)), (q_t_counts, .inl (cy 0, 96, .inl u_1)), (q_t_scores, .inl (cy 0, 16, .inl t_scores)), (q_t_isIn, .inl (cy 3, 16, .inl t_isIn)), (q_t_order, .inl (cy 0, 16, .inl t_order))]) cx dX6_servedBy_8 0 rfl rfl rfl (Nat.le_of_ble_eq_true rfl) rfl ?_
  refine v_aload_n cx dX6_servedBy_11 rfl 0 rfl ?_
  refine v_iconst (v := (-1)) cx dX6_servedBy_12 (by decide) ?_
  refine v_callV (As := [.int (-1)]) cx (c_X6_rank l g D cy q_t q_t_m q_t_saved q_t_text q_t_read q_t_counts q_t_scores q_t_isIn q_t_order q_t_row q_t_listing h) k_X6_176 (by decide) (by decide) rfl rfl (Nat.le_of_ble_eq_true rfl) dX6_servedBy_13 [0, 1, 2, 3, 4, 5] [] (by decide) rfl rfl rfl (q0 := 0) rfl rfl (fun v9 w9 hp => ?_)
  refine Exists.elim hp fun u_2 hp => Exists.elim hp fun u_3 hp => Exists.elim hp fun u_4 hp => Exists.elim hp fun u_5 hp => ?_
  obtain ⟨rfl, rfl, h⟩ := hp
  refine v_afterJ (ws' := [(q_t, .inr (6, [.ref q_t_m, .ref q_t_saved, .int t_savedCount, .ref q_t_text, .int t_textLength, .int t_code, .int t_at, .ref q_t_read, .int t_number, .ref q_t_counts, .ref q_t_scores, .ref q_t_isIn, .ref q_t_order, .int u_2, .int (1 - x1), .ref q_t_row, .ref q_t_listing, .int t_listingLength, .long t_hash])), (q_t_m, .inl (cy 0, 378, .inl t_m)), (q_t_counts, .inl (cy 0, 96, .inl u_1)), (q_t_scores, .inl (cy 0, 16, .inl u_3)), (q_t_isIn, .inl (cy 3, 16, .inl u_4)), (q_t_order, .inl (cy 0, 16, .inl u_5))]) (st' := []) (ce := 0) (sl := 0) 6 [6, 7, 8, 9, 10, 11] (by decide +kernel) (by decide +kernel) rfl rfl ⟨rfl, rfl⟩ ?_
  refine v_aload_n cx dX6_servedBy_16 rfl 0 rfl ?_
  refine v_iconst (v := (-1)) cx dX6_servedBy_17 (by decide) ?_
  refine p_X6_35 (ws' := [(q_t, .inr (6, [.ref q_t_m, .ref q_t_saved, .int t_savedCount, .ref q_t_text, .int t_textLength, .int t_code, .int t_at, .ref q_t_read, .int t_number, .ref q_t_counts, .ref q_t_scores, .ref q_t_isIn, .ref q_t_order, .int u_2, .int (-1), .ref q_t_row, .ref q_t_listing, .int t_listingLength, .long t_hash])), (q_t_m, .inl (cy 0, 378, .inl t_m)), (q_t_counts, .inl (cy 0, 96, .inl u_1)), (q_t_scores, .inl (cy 0, 16, .inl u_3)), (q_t_isIn, .inl (cy 3, 16, .inl u_4)), (q_t_order, .inl (cy 0, 16, .inl u_5))]) cx dX6_servedBy_18 0 rfl rfl rfl (Nat.le_of_ble_eq_true rfl) rfl ?_
  refine v_aload_n cx dX6_servedBy_21 rfl 0 rfl ?_
  refine v_callVpi (As := []) cx (c_X6_served l g D cy q_t q_t_m q_t_saved q_t_text q_t_read q_t_counts q_t_scores q_t_isIn q_t_order q_t_row q_t_listing h) k_X6_221 (by decide) ⟨rfl, rfl⟩ (by decide) rfl rfl (Nat.le_of_ble_eq_true rfl) dX6_servedBy_22 [0, 5] [1, 2, 3, 4] (by decide) (vj_all 6 rfl (by decide +kernel)) rfl rfl rfl (q0 := 0) rfl rfl (fun r_6 h => ?_)
  exact v_ireturn cx rfl dX6_servedBy_25 ⟨_, _, _, _, _, _, _, rfl, rfl, h⟩
abbrev rm_X6_servedFor : Room := { frames := 6, cells := 0, slots := 0, locals := 135 }
set_option maxHeartbeats 4000000 in
set_option maxRecDepth 100000 in
theorem c_X6_servedFor (l : Launch) (g : gT) (D : va_G) (cy : Nat → ClassId) (q_t q_t_m q_t_saved q_t_text q_t_read q_t_counts q_t_scores q_t_isIn q_t_order q_t_row q_t_listing : Nat) {t_savedCount : Int32} {t_textLength : Int32} {t_code : Int32} {t_at : Int32} {t_number : Int32} {t_ranked : Int32} {t_emptySide : Int32} {t_listingLength : Int32} {t_hash : Int64} {t_m : Nat → Int32} {t_counts : Nat → Int32} {t_scores : Nat → Int32} {t_isIn : Nat → Int32} {t_order : Nat → Int32} {x1 : Int32} {N : Nat} {Q : Int32 → Int32 → Int32 → Int32 → (Nat → Int32) → (Nat → Int32) → (Nat → Int32) → (Nat → Int32) → Prop} (h : p_X6_servedFor N t_savedCount t_textLength t_code t_at t_number t_ranked t_emptySide t_listingLength t_hash t_m t_counts t_scores t_isIn t_order x1 Q) : UC l yX6_servedFor cX6_servedFor 2 (some .int) rm_X6_servedFor g D cy [.ref q_t, .int x1] [(q_t, .inr (6, [.ref q_t_m, .ref q_t_saved, .int t_savedCount, .ref q_t_text, .int t_textLength, .int t_code, .int t_at, .ref q_t_read, .int t_number, .ref q_t_counts, .ref q_t_scores, .ref q_t_isIn, .ref q_t_order, .int t_ranked, .int t_emptySide, .ref q_t_row, .ref q_t_listing, .int t_listingLength, .long t_hash])), (q_t_m, .inl (cy 0, 378, .inl t_m)), (q_t_counts, .inl (cy 0, 96, .inl t_counts)), (q_t_scores, .inl (cy 0, 16, .inl t_scores)), (q_t_isIn, .inl (cy 3, 16, .inl t_isIn)), (q_t_order, .inl (cy 0, 16, .inl t_order))] (fun v w => ∃ (r : Int32) (t_code' : Int32) (t_ranked' : Int32) (t_emptySide' : Int32) (t_counts' : Nat → Int32) (t_scores' : Nat → Int32) (t_isIn' : Nat → Int32) (t_order' : Nat → Int32), v = some (.int r) ∧ w = [(q_t, .inr (6, [.ref q_t_m, .ref q_t_saved, .int t_savedCount, .ref q_t_text, .int t_textLength, .int t_code', .int t_at, .ref q_t_read, .int t_number, .ref q_t_counts, .ref q_t_scores, .ref q_t_isIn, .ref q_t_order, .int t_ranked', .int t_emptySide', .ref q_t_row, .ref q_t_listing, .int t_listingLength, .long t_hash])), (q_t_m, .inl (cy 0, 378, .inl t_m)), (q_t_counts, .inl (cy 0, 96, .inl t_counts')), (q_t_scores, .inl (cy 0, 16, .inl t_scores')), (q_t_isIn, .inl (cy 3, 16, .inl t_isIn')), (q_t_order, .inl (cy 0, 16, .inl t_order'))] ∧ Q r t_code' t_ranked' t_emptySide' t_counts' t_scores' t_isIn' t_order') := by
  refine UC_of (by decide +kernel) (Nat.le_of_ble_eq_true rfl) [(0, .ref q_t), (1, .int x1)] rfl (fun p e s m args below meth c A cx => ?_)
  unfold p_X6_servedFor at h
  refine v_aload_n cx dX6_servedFor_0 rfl 0 rfl ?_
  refine v_iload_n cx dX6_servedFor_1 rfl 1 rfl ?_
  refine v_iconst (v := 0) cx dX6_servedFor_2 (by decide) ?_
  refine v_iconst (v := 1) cx dX6_servedFor_3 (by decide) ?_
  refine v_callSpi (As := [.int x1, .int 0, .int 1]) cx (c_X6_in l g D cy  h) k_X6_51 (by decide) ⟨rfl, rfl⟩ (by decide) rfl rfl (Nat.le_of_ble_eq_true rfl) dX6_servedFor_4 [] [0, 1, 2, 3, 4, 5] (by decide) (vj_all 6 rfl (by decide +kernel)) rfl rfl rfl (fun r_1 h => ?_)
  refine v_if_eq (tgt := 14) cx dX6_servedFor_7 (by decide) h (fun h => ?_) (fun h => ?_)
  · refine v_iconst (v := 1) cx dX6_servedFor_14 (by decide) ?_
    refine p_X6_45 (ws' := [(q_t, .inr (6, [.ref q_t_m, .ref q_t_saved, .int t_savedCount, .ref q_t_text, .int t_textLength, .int 1, .int t_at, .ref q_t_read, .int t_number, .ref q_t_counts, .ref q_t_scores, .ref q_t_isIn, .ref q_t_order, .int t_ranked, .int t_emptySide, .ref q_t_row, .ref q_t_listing, .int t_listingLength, .long t_hash])), (q_t_m, .inl (cy 0, 378, .inl t_m)), (q_t_counts, .inl (cy 0, 96, .inl t_counts)), (q_t_scores, .inl (cy 0, 16, .inl t_scores)), (q_t_isIn, .inl (cy 3, 16, .inl t_isIn)), (q_t_order, .inl (cy 0, 16, .inl t_order))]) cx dX6_servedFor_15 0 rfl rfl rfl (Nat.le_of_ble_eq_true rfl) rfl ?_
    refine v_aload_n cx dX6_servedFor_18 rfl 0 rfl ?_
    refine g_X6_45 cx dX6_servedFor_19 0 rfl rfl ?_
    refine v_if_eq (tgt := 29) (P1 := False) (P2 := True) cx dX6_servedFor_22 (by decide) (by decide) (fun z => z.elim) (fun _ => ?_)
    refine v_iconst (v := 0) cx dX6_servedFor_25 (by decide) ?_
    refine v_goto (tgt := 34) cx dX6_servedFor_26 (by decide) ?_
    exact v_ireturn cx rfl dX6_servedFor_34 ⟨_, _, _, _, _, _, _, _, rfl, rfl, h⟩
  · refine v_iconst (v := 0) cx dX6_servedFor_10 (by decide) ?_
    refine v_goto (tgt := 15) cx dX6_servedFor_11 (by decide) ?_
    refine p_X6_45 (ws' := [(q_t, .inr (6, [.ref q_t_m, .ref q_t_saved, .int t_savedCount, .ref q_t_text, .int t_textLength, .int 0, .int t_at, .ref q_t_read, .int t_number, .ref q_t_counts, .ref q_t_scores, .ref q_t_isIn, .ref q_t_order, .int t_ranked, .int t_emptySide, .ref q_t_row, .ref q_t_listing, .int t_listingLength, .long t_hash])), (q_t_m, .inl (cy 0, 378, .inl t_m)), (q_t_counts, .inl (cy 0, 96, .inl t_counts)), (q_t_scores, .inl (cy 0, 16, .inl t_scores)), (q_t_isIn, .inl (cy 3, 16, .inl t_isIn)), (q_t_order, .inl (cy 0, 16, .inl t_order))]) cx dX6_servedFor_15 0 rfl rfl rfl (Nat.le_of_ble_eq_true rfl) rfl ?_
    refine v_aload_n cx dX6_servedFor_18 rfl 0 rfl ?_
    refine g_X6_45 cx dX6_servedFor_19 0 rfl rfl ?_
    refine v_if_eq (tgt := 29) (P1 := True) (P2 := False) cx dX6_servedFor_22 (by decide) (by decide) (fun _ => ?_) (fun z => z.elim)
    refine v_aload_n cx dX6_servedFor_29 rfl 0 rfl ?_
    refine v_iload_n cx dX6_servedFor_30 rfl 1 rfl ?_
    refine v_callV (As := [.int x1]) cx (c_X6_servedBy l g D cy q_t q_t_m q_t_saved q_t_text q_t_read q_t_counts q_t_scores q_t_isIn q_t_order q_t_row q_t_listing h) k_X6_230 (by decide) (by decide) rfl rfl (Nat.le_of_ble_eq_true rfl) dX6_servedFor_31 [0, 1, 2, 3, 4, 5] [] (by decide) rfl rfl rfl (q0 := 0) rfl rfl (fun v9 w9 hp => ?_)
    refine Exists.elim hp fun r_2 hp => Exists.elim hp fun u_3 hp => Exists.elim hp fun u_4 hp => Exists.elim hp fun u_5 hp => Exists.elim hp fun u_6 hp => Exists.elim hp fun u_7 hp => Exists.elim hp fun u_8 hp => ?_
    obtain ⟨rfl, rfl, h⟩ := hp
    refine v_afterJ (ws' := [(q_t, .inr (6, [.ref q_t_m, .ref q_t_saved, .int t_savedCount, .ref q_t_text, .int t_textLength, .int 0, .int t_at, .ref q_t_read, .int t_number, .ref q_t_counts, .ref q_t_scores, .ref q_t_isIn, .ref q_t_order, .int u_3, .int u_4, .ref q_t_row, .ref q_t_listing, .int t_listingLength, .long t_hash])), (q_t_m, .inl (cy 0, 378, .inl t_m)), (q_t_counts, .inl (cy 0, 96, .inl u_5)), (q_t_scores, .inl (cy 0, 16, .inl u_6)), (q_t_isIn, .inl (cy 3, 16, .inl u_7)), (q_t_order, .inl (cy 0, 16, .inl u_8))]) (st' := [.int r_2]) (ce := 0) (sl := 0) 6 [6, 7, 8, 9, 10, 11] (by decide +kernel) (by decide +kernel) rfl rfl ⟨rfl, rfl⟩ ?_
    exact v_ireturn cx rfl dX6_servedFor_34 ⟨_, _, _, _, _, _, _, _, rfl, rfl, h⟩
abbrev rm_X6_servedWithout : Room := { frames := 5, cells := 0, slots := 0, locals := 114 }
set_option maxHeartbeats 4000000 in
set_option maxRecDepth 100000 in
theorem c_X6_servedWithout (l : Launch) (g : gT) (D : va_G) (cy : Nat → ClassId) (q_t q_t_m q_t_saved q_t_text q_t_read q_t_counts q_t_scores q_t_isIn q_t_order q_t_row q_t_listing : Nat) {t_savedCount : Int32} {t_textLength : Int32} {t_code : Int32} {t_at : Int32} {t_number : Int32} {t_ranked : Int32} {t_emptySide : Int32} {t_listingLength : Int32} {t_hash : Int64} {t_m : Nat → Int32} {t_counts : Nat → Int32} {t_scores : Nat → Int32} {t_isIn : Nat → Int32} {t_order : Nat → Int32} {x1 : Int32} {N : Nat} {Q : Int32 → Int32 → Int32 → (Nat → Int32) → (Nat → Int32) → (Nat → Int32) → (Nat → Int32) → Prop} (h : p_X6_servedWithout N t_savedCount t_textLength t_code t_at t_number t_ranked t_emptySide t_listingLength t_hash t_m t_counts t_scores t_isIn t_order x1 Q) : UC l yX6_servedWithout cX6_servedWithout 2 (some .int) rm_X6_servedWithout g D cy [.ref q_t, .int x1] [(q_t, .inr (6, [.ref q_t_m, .ref q_t_saved, .int t_savedCount, .ref q_t_text, .int t_textLength, .int t_code, .int t_at, .ref q_t_read, .int t_number, .ref q_t_counts, .ref q_t_scores, .ref q_t_isIn, .ref q_t_order, .int t_ranked, .int t_emptySide, .ref q_t_row, .ref q_t_listing, .int t_listingLength, .long t_hash])), (q_t_m, .inl (cy 0, 378, .inl t_m)), (q_t_counts, .inl (cy 0, 96, .inl t_counts)), (q_t_scores, .inl (cy 0, 16, .inl t_scores)), (q_t_isIn, .inl (cy 3, 16, .inl t_isIn)), (q_t_order, .inl (cy 0, 16, .inl t_order))] (fun v w => ∃ (r : Int32) (t_code' : Int32) (t_ranked' : Int32) (t_counts' : Nat → Int32) (t_scores' : Nat → Int32) (t_isIn' : Nat → Int32) (t_order' : Nat → Int32), v = some (.int r) ∧ w = [(q_t, .inr (6, [.ref q_t_m, .ref q_t_saved, .int t_savedCount, .ref q_t_text, .int t_textLength, .int t_code', .int t_at, .ref q_t_read, .int t_number, .ref q_t_counts, .ref q_t_scores, .ref q_t_isIn, .ref q_t_order, .int t_ranked', .int t_emptySide, .ref q_t_row, .ref q_t_listing, .int t_listingLength, .long t_hash])), (q_t_m, .inl (cy 0, 378, .inl t_m)), (q_t_counts, .inl (cy 0, 96, .inl t_counts')), (q_t_scores, .inl (cy 0, 16, .inl t_scores')), (q_t_isIn, .inl (cy 3, 16, .inl t_isIn')), (q_t_order, .inl (cy 0, 16, .inl t_order'))] ∧ Q r t_code' t_ranked' t_counts' t_scores' t_isIn' t_order') := by
  refine UC_of (by decide +kernel) (Nat.le_of_ble_eq_true rfl) [(0, .ref q_t), (1, .int x1)] rfl (fun p e s m args below meth c A cx => ?_)
  unfold p_X6_servedWithout at h
  refine v_aload_n cx dX6_servedWithout_0 rfl 0 rfl ?_
  refine v_aload_n cx dX6_servedWithout_1 rfl 0 rfl ?_
  refine v_iload_n cx dX6_servedWithout_2 rfl 1 rfl ?_
  refine v_callVpi (As := [.int x1]) cx (c_X6_isVariant l g D cy q_t q_t_m q_t_saved q_t_text q_t_read q_t_counts q_t_scores q_t_isIn q_t_order q_t_row q_t_listing h) k_X6_124 (by decide) ⟨rfl, rfl⟩ (by decide) rfl rfl (Nat.le_of_ble_eq_true rfl) dX6_servedWithout_3 [0, 1] [2, 3, 4, 5] (by decide) (vj_all 6 rfl (by decide +kernel)) rfl rfl rfl (q0 := 0) rfl rfl (fun r_1 h => ?_)
  refine v_if_eq (tgt := 13) cx dX6_servedWithout_6 (by decide) h (fun h => ?_) (fun h => ?_)
  · refine v_iconst (v := 1) cx dX6_servedWithout_13 (by decide) ?_
    refine p_X6_45 (ws' := [(q_t, .inr (6, [.ref q_t_m, .ref q_t_saved, .int t_savedCount, .ref q_t_text, .int t_textLength, .int 1, .int t_at, .ref q_t_read, .int t_number, .ref q_t_counts, .ref q_t_scores, .ref q_t_isIn, .ref q_t_order, .int t_ranked, .int t_emptySide, .ref q_t_row, .ref q_t_listing, .int t_listingLength, .long t_hash])), (q_t_m, .inl (cy 0, 378, .inl t_m)), (q_t_counts, .inl (cy 0, 96, .inl t_counts)), (q_t_scores, .inl (cy 0, 16, .inl t_scores)), (q_t_isIn, .inl (cy 3, 16, .inl t_isIn)), (q_t_order, .inl (cy 0, 16, .inl t_order))]) cx dX6_servedWithout_14 0 rfl rfl rfl (Nat.le_of_ble_eq_true rfl) rfl ?_
    refine v_aload_n cx dX6_servedWithout_17 rfl 0 rfl ?_
    refine g_X6_45 cx dX6_servedWithout_18 0 rfl rfl ?_
    refine v_if_eq (tgt := 26) (P1 := False) (P2 := True) cx dX6_servedWithout_21 (by decide) (by decide) (fun z => z.elim) (fun _ => ?_)
    refine v_iconst (v := 0) cx dX6_servedWithout_24 (by decide) ?_
    exact v_ireturn cx rfl dX6_servedWithout_25 ⟨_, _, _, _, _, _, _, rfl, rfl, h⟩
  · refine v_iconst (v := 0) cx dX6_servedWithout_9 (by decide) ?_
    refine v_goto (tgt := 14) cx dX6_servedWithout_10 (by decide) ?_
    refine p_X6_45 (ws' := [(q_t, .inr (6, [.ref q_t_m, .ref q_t_saved, .int t_savedCount, .ref q_t_text, .int t_textLength, .int 0, .int t_at, .ref q_t_read, .int t_number, .ref q_t_counts, .ref q_t_scores, .ref q_t_isIn, .ref q_t_order, .int t_ranked, .int t_emptySide, .ref q_t_row, .ref q_t_listing, .int t_listingLength, .long t_hash])), (q_t_m, .inl (cy 0, 378, .inl t_m)), (q_t_counts, .inl (cy 0, 96, .inl t_counts)), (q_t_scores, .inl (cy 0, 16, .inl t_scores)), (q_t_isIn, .inl (cy 3, 16, .inl t_isIn)), (q_t_order, .inl (cy 0, 16, .inl t_order))]) cx dX6_servedWithout_14 0 rfl rfl rfl (Nat.le_of_ble_eq_true rfl) rfl ?_
    refine v_aload_n cx dX6_servedWithout_17 rfl 0 rfl ?_
    refine g_X6_45 cx dX6_servedWithout_18 0 rfl rfl ?_
    refine v_if_eq (tgt := 26) (P1 := True) (P2 := False) cx dX6_servedWithout_21 (by decide) (by decide) (fun _ => ?_) (fun z => z.elim)
    refine v_aload_n cx dX6_servedWithout_26 rfl 0 rfl ?_
    refine v_callV (As := []) cx (c_X6_count l g D cy q_t q_t_m q_t_saved q_t_text q_t_read q_t_counts q_t_scores q_t_isIn q_t_order q_t_row q_t_listing h) k_X6_173 (by decide) (by decide) rfl rfl (Nat.le_of_ble_eq_true rfl) dX6_servedWithout_27 [0, 1, 2] [3, 4, 5] (by decide) rfl rfl rfl (q0 := 0) rfl rfl (fun v9 w9 hp => ?_)
    obtain ⟨u_2, rfl, rfl, h⟩ := hp
    refine v_afterJ (ws' := [(q_t, .inr (6, [.ref q_t_m, .ref q_t_saved, .int t_savedCount, .ref q_t_text, .int t_textLength, .int 0, .int t_at, .ref q_t_read, .int t_number, .ref q_t_counts, .ref q_t_scores, .ref q_t_isIn, .ref q_t_order, .int t_ranked, .int t_emptySide, .ref q_t_row, .ref q_t_listing, .int t_listingLength, .long t_hash])), (q_t_m, .inl (cy 0, 378, .inl t_m)), (q_t_counts, .inl (cy 0, 96, .inl u_2)), (q_t_scores, .inl (cy 0, 16, .inl t_scores)), (q_t_isIn, .inl (cy 3, 16, .inl t_isIn)), (q_t_order, .inl (cy 0, 16, .inl t_order))]) (st' := []) (ce := 0) (sl := 0) 6 [6, 7, 8, 3, 4, 5] (by decide +kernel) (by decide +kernel) rfl rfl ⟨rfl, rfl⟩ ?_
    refine v_aload_n cx dX6_servedWithout_30 rfl 0 rfl ?_
    refine v_iload_n cx dX6_servedWithout_31 rfl 1 rfl ?_
    refine v_callV (As := [.int x1]) cx (c_X6_rank l g D cy q_t q_t_m q_t_saved q_t_text q_t_read q_t_counts q_t_scores q_t_isIn q_t_order q_t_row q_t_listing h) k_X6_176 (by decide) (by decide) rfl rfl (Nat.le_of_ble_eq_true rfl) dX6_servedWithout_32 [0, 1, 2, 3, 4, 5] [] (by decide) rfl rfl rfl (q0 := 0) rfl rfl (fun v9 w9 hp => ?_)
    refine Exists.elim hp fun u_3 hp => Exists.elim hp fun u_4 hp => Exists.elim hp fun u_5 hp => Exists.elim hp fun u_6 hp => ?_
    obtain ⟨rfl, rfl, h⟩ := hp
    refine v_afterJ (ws' := [(q_t, .inr (6, [.ref q_t_m, .ref q_t_saved, .int t_savedCount, .ref q_t_text, .int t_textLength, .int 0, .int t_at, .ref q_t_read, .int t_number, .ref q_t_counts, .ref q_t_scores, .ref q_t_isIn, .ref q_t_order, .int u_3, .int t_emptySide, .ref q_t_row, .ref q_t_listing, .int t_listingLength, .long t_hash])), (q_t_m, .inl (cy 0, 378, .inl t_m)), (q_t_counts, .inl (cy 0, 96, .inl u_2)), (q_t_scores, .inl (cy 0, 16, .inl u_4)), (q_t_isIn, .inl (cy 3, 16, .inl u_5)), (q_t_order, .inl (cy 0, 16, .inl u_6))]) (st' := []) (ce := 0) (sl := 0) 6 [6, 7, 8, 9, 10, 11] (by decide +kernel) (by decide +kernel) rfl rfl ⟨rfl, rfl⟩ ?_
    refine v_aload_n cx dX6_servedWithout_35 rfl 0 rfl ?_
    refine v_callVpi (As := []) cx (c_X6_served l g D cy q_t q_t_m q_t_saved q_t_text q_t_read q_t_counts q_t_scores q_t_isIn q_t_order q_t_row q_t_listing h) k_X6_221 (by decide) ⟨rfl, rfl⟩ (by decide) rfl rfl (Nat.le_of_ble_eq_true rfl) dX6_servedWithout_36 [0, 5] [1, 2, 3, 4] (by decide) (vj_all 6 rfl (by decide +kernel)) rfl rfl rfl (q0 := 0) rfl rfl (fun r_7 h => ?_)
    exact v_ireturn cx rfl dX6_servedWithout_39 ⟨_, _, _, _, _, _, _, rfl, rfl, h⟩
abbrev rm_X6_leastIn : Room := { frames := 5, cells := 0, slots := 0, locals := 114 }
set_option maxHeartbeats 4000000 in
set_option maxRecDepth 100000 in
theorem w_X6_leastIn_17 {p : Program} {l : Launch} {e : Env} {s : State} {m : MethodId} {args : Array Value} {below : List Frame} {meth : Method} {c : Code} {Q9 : State → Prop} {mn : String} {Ts : List Cond} {D : va_G} {cy : Nat → ClassId} {g : gT} {A : Nat → Prop} (cx : vC p s m args meth c cX6_leastIn 6 (some .int) RX6 mn Ts D cy g A) (q_t q_t_m q_t_saved q_t_text q_t_read q_t_counts q_t_scores q_t_isIn q_t_order q_t_row q_t_listing : Nat) {x1 : Int32} {x2 : Int32} {x3 : Int32} {t_savedCount : Int32} {t_textLength : Int32} {t_code : Int32} {t_at : Int32} {t_number : Int32} {t_emptySide : Int32} {t_listingLength : Int32} {t_hash : Int64} {t_counts : Nat → Int32} {N : Nat} {K66 : Int32 → Int32 → Int32 → (Nat → Int32) → (Nat → Int32) → (Nat → Int32) → (Nat → Int32) → Prop} (hK66 : ∀ (x4 : Int32) (x5 : Int32) (t_ranked : Int32) (t_m : Nat → Int32) (t_scores : Nat → Int32) (t_isIn : Nat → Int32) (t_order : Nat → Int32), K66 x4 x5 t_ranked t_m t_scores t_isIn t_order → vV p l e rm_X6_leastIn s m args below meth c Q9 6 D A 0 0 [(q_t, .inr (6, [.ref q_t_m, .ref q_t_saved, .int t_savedCount, .ref q_t_text, .int t_textLength, .int t_code, .int t_at, .ref q_t_read, .int t_number, .ref q_t_counts, .ref q_t_scores, .ref q_t_isIn, .ref q_t_order, .int t_ranked, .int t_emptySide, .ref q_t_row, .ref q_t_listing, .int t_listingLength, .long t_hash])), (q_t_m, .inl (cy 0, 378, .inl t_m)), (q_t_counts, .inl (cy 0, 96, .inl t_counts)), (q_t_scores, .inl (cy 0, 16, .inl t_scores)), (q_t_isIn, .inl (cy 3, 16, .inl t_isIn)), (q_t_order, .inl (cy 0, 16, .inl t_order))] 66 [(0, .ref q_t), (1, .int x1), (2, .int x2), (3, .int x3), (4, .int x4), (5, .int x5)] []) : ∀ (n : Nat) (x4 : Int32) (x5 : Int32) (t_ranked : Int32) (t_m : Nat → Int32) (t_scores : Nat → Int32) (t_isIn : Nat → Int32) (t_order : Nat → Int32), p_X6_leastIn_17 N x1 x2 x3 t_savedCount t_textLength t_code t_at t_number t_emptySide t_listingLength t_hash t_counts K66 n x4 x5 t_ranked t_m t_scores t_isIn t_order → vV p l e rm_X6_leastIn s m args below meth c Q9 6 D A 0 0 [(q_t, .inr (6, [.ref q_t_m, .ref q_t_saved, .int t_savedCount, .ref q_t_text, .int t_textLength, .int t_code, .int t_at, .ref q_t_read, .int t_number, .ref q_t_counts, .ref q_t_scores, .ref q_t_isIn, .ref q_t_order, .int t_ranked, .int t_emptySide, .ref q_t_row, .ref q_t_listing, .int t_listingLength, .long t_hash])), (q_t_m, .inl (cy 0, 378, .inl t_m)), (q_t_counts, .inl (cy 0, 96, .inl t_counts)), (q_t_scores, .inl (cy 0, 16, .inl t_scores)), (q_t_isIn, .inl (cy 3, 16, .inl t_isIn)), (q_t_order, .inl (cy 0, 16, .inl t_order))] 17 [(0, .ref q_t), (1, .int x1), (2, .int x2), (3, .int x3), (4, .int x4), (5, .int x5)] [] := by
  intro n
  induction n with
  | zero => intro x4 x5 t_ranked t_m t_scores t_isIn t_order h; exact False.elim h
  | succ n ih =>
    intro x4 x5 t_ranked t_m t_scores t_isIn t_order h
    unfold p_X6_leastIn_17 at h
    refine v_iload cx dX6_leastIn_17 5 rfl ?_
    refine v_sipush (v := 1000) cx dX6_leastIn_19 (by decide) ?_
    refine v_icmp_gt (tgt := 66) cx dX6_leastIn_22 (by decide) h (fun h => ?_) (fun h => ?_)
    · refine v_lv (lv' := [(0, .ref q_t), (1, .int x1), (2, .int x2), (3, .int x3), (4, .int x4), (5, .int x5)]) [0, 1, 2, 3, 4, 5] rfl ?_
      exact hK66 _ _ _ _ _ _ _ h
    · refine v_iload cx dX6_leastIn_25 4 rfl ?_
      refine v_iconst (v := (-1)) cx dX6_leastIn_27 (by decide) ?_
      refine v_icmp_ne (tgt := 66) cx dX6_leastIn_28 (by decide) h (fun h => ?_) (fun h => ?_)
      · refine v_lv (lv' := [(0, .ref q_t), (1, .int x1), (2, .int x2), (3, .int x3), (4, .int x4), (5, .int x5)]) [0, 1, 2, 3, 4, 5] rfl ?_
        exact hK66 _ _ _ _ _ _ _ h
      · refine v_aload_n cx dX6_leastIn_31 rfl 0 rfl ?_
        refine g_X6_7 cx dX6_leastIn_32 0 rfl rfl ?_
        refine v_iload_n cx dX6_leastIn_35 rfl 1 rfl ?_
        refine v_iload cx dX6_leastIn_36 5 rfl ?_
        refine v_iast (ws' := [(q_t, .inr (6, [.ref q_t_m, .ref q_t_saved, .int t_savedCount, .ref q_t_text, .int t_textLength, .int t_code, .int t_at, .ref q_t_read, .int t_number, .ref q_t_counts, .ref q_t_scores, .ref q_t_isIn, .ref q_t_order, .int t_ranked, .int t_emptySide, .ref q_t_row, .ref q_t_listing, .int t_listingLength, .long t_hash])), (q_t_m, .inl (cy 0, 378, .inl (upd t_m x1.toNatClampNeg x5))), (q_t_counts, .inl (cy 0, 96, .inl t_counts)), (q_t_scores, .inl (cy 0, 16, .inl t_scores)), (q_t_isIn, .inl (cy 3, 16, .inl t_isIn)), (q_t_order, .inl (cy 0, 16, .inl t_order))]) cx dX6_leastIn_38 1 rfl h rfl (fun h => ?_)
        refine v_aload_n cx dX6_leastIn_39 rfl 0 rfl ?_
        refine v_iconst (v := (-1)) cx dX6_leastIn_40 (by decide) ?_
        refine v_callV (As := [.int (-1)]) cx (c_X6_rank l g D cy q_t q_t_m q_t_saved q_t_text q_t_read q_t_counts q_t_scores q_t_isIn q_t_order q_t_row q_t_listing h) k_X6_176 (by decide) (by decide) rfl rfl (Nat.le_of_ble_eq_true rfl) dX6_leastIn_41 [0, 1, 2, 3, 4, 5] [] (by decide) rfl rfl rfl (q0 := 0) rfl rfl (fun v9 w9 hp => ?_)
        refine Exists.elim hp fun u_2 hp => Exists.elim hp fun u_3 hp => Exists.elim hp fun u_4 hp => Exists.elim hp fun u_5 hp => ?_
        obtain ⟨rfl, rfl, h⟩ := hp
        refine v_afterJ (ws' := [(q_t, .inr (6, [.ref q_t_m, .ref q_t_saved, .int t_savedCount, .ref q_t_text, .int t_textLength, .int t_code, .int t_at, .ref q_t_read, .int t_number, .ref q_t_counts, .ref q_t_scores, .ref q_t_isIn, .ref q_t_order, .int u_2, .int t_emptySide, .ref q_t_row, .ref q_t_listing, .int t_listingLength, .long t_hash])), (q_t_m, .inl (cy 0, 378, .inl (upd t_m x1.toNatClampNeg x5))), (q_t_counts, .inl (cy 0, 96, .inl t_counts)), (q_t_scores, .inl (cy 0, 16, .inl u_3)), (q_t_isIn, .inl (cy 3, 16, .inl u_4)), (q_t_order, .inl (cy 0, 16, .inl u_5))]) (st' := []) (ce := 0) (sl := 0) 6 [6, 7, 8, 9, 10, 11] (by decide +kernel) (by decide +kernel) rfl rfl ⟨rfl, rfl⟩ ?_
        refine v_aload_n cx dX6_leastIn_44 rfl 0 rfl ?_
        refine v_callVpi (As := []) cx (c_X6_served l g D cy q_t q_t_m q_t_saved q_t_text q_t_read q_t_counts q_t_scores q_t_isIn q_t_order q_t_row q_t_listing h) k_X6_221 (by decide) ⟨rfl, rfl⟩ (by decide) rfl rfl (Nat.le_of_ble_eq_true rfl) dX6_leastIn_45 [0, 5] [1, 2, 3, 4] (by decide) (vj_all 6 rfl (by decide +kernel)) rfl rfl rfl (q0 := 0) rfl rfl (fun r_6 h => ?_)
        refine v_iload_n cx dX6_leastIn_48 rfl 2 rfl ?_
        refine v_icmp_ne (tgt := 57) cx dX6_leastIn_49 (by decide) h (fun h => ?_) (fun h => ?_)
        · refine v_iconst (v := (-1)) cx dX6_leastIn_57 (by decide) ?_
          refine v_istore (lv' := [(4, .int (-1)), (0, .ref q_t), (1, .int x1), (2, .int x2), (3, .int x3), (5, .int x5)]) cx dX6_leastIn_58 (by decide) rfl ?_
          refine v_iinc (v := x5 + 1) (k0 := 5) (lv' := [(5, .int (x5 + 1)), (4, .int (-1)), (0, .ref q_t), (1, .int x1), (2, .int x2), (3, .int x3)]) cx dX6_leastIn_60 rfl rfl (by decide) rfl ?_
          refine v_goto (tgt := 17) cx dX6_leastIn_63 (by decide) ?_
          refine v_lv (lv' := [(0, .ref q_t), (1, .int x1), (2, .int x2), (3, .int x3), (4, .int (-1)), (5, .int (x5 + 1))]) [2, 3, 4, 5, 1, 0] rfl ?_
          exact ih _ _ _ _ _ _ _ h
        · refine v_iload cx dX6_leastIn_52 5 rfl ?_
          refine v_goto (tgt := 58) cx dX6_leastIn_54 (by decide) ?_
          refine v_istore (lv' := [(4, .int x5), (0, .ref q_t), (1, .int x1), (2, .int x2), (3, .int x3), (5, .int x5)]) cx dX6_leastIn_58 (by decide) rfl ?_
          refine v_iinc (v := x5 + 1) (k0 := 5) (lv' := [(5, .int (x5 + 1)), (4, .int x5), (0, .ref q_t), (1, .int x1), (2, .int x2), (3, .int x3)]) cx dX6_leastIn_60 rfl rfl (by decide) rfl ?_
          refine v_goto (tgt := 17) cx dX6_leastIn_63 (by decide) ?_
          refine v_lv (lv' := [(0, .ref q_t), (1, .int x1), (2, .int x2), (3, .int x3), (4, .int x5), (5, .int (x5 + 1))]) [2, 3, 4, 5, 1, 0] rfl ?_
          exact ih _ _ _ _ _ _ _ h
set_option maxHeartbeats 4000000 in
set_option maxRecDepth 100000 in
theorem c_X6_leastIn (l : Launch) (g : gT) (D : va_G) (cy : Nat → ClassId) (q_t q_t_m q_t_saved q_t_text q_t_read q_t_counts q_t_scores q_t_isIn q_t_order q_t_row q_t_listing : Nat) {t_savedCount : Int32} {t_textLength : Int32} {t_code : Int32} {t_at : Int32} {t_number : Int32} {t_ranked : Int32} {t_emptySide : Int32} {t_listingLength : Int32} {t_hash : Int64} {t_m : Nat → Int32} {t_counts : Nat → Int32} {t_scores : Nat → Int32} {t_isIn : Nat → Int32} {t_order : Nat → Int32} {x1 : Int32} {x2 : Int32} {N : Nat} {Q : Int32 → Int32 → (Nat → Int32) → (Nat → Int32) → (Nat → Int32) → (Nat → Int32) → (Nat → Int32) → Prop} (h : p_X6_leastIn N t_savedCount t_textLength t_code t_at t_number t_ranked t_emptySide t_listingLength t_hash t_m t_counts t_scores t_isIn t_order x1 x2 Q) : UC l yX6_leastIn cX6_leastIn 6 (some .int) rm_X6_leastIn g D cy [.ref q_t, .int x1, .int x2] [(q_t, .inr (6, [.ref q_t_m, .ref q_t_saved, .int t_savedCount, .ref q_t_text, .int t_textLength, .int t_code, .int t_at, .ref q_t_read, .int t_number, .ref q_t_counts, .ref q_t_scores, .ref q_t_isIn, .ref q_t_order, .int t_ranked, .int t_emptySide, .ref q_t_row, .ref q_t_listing, .int t_listingLength, .long t_hash])), (q_t_m, .inl (cy 0, 378, .inl t_m)), (q_t_counts, .inl (cy 0, 96, .inl t_counts)), (q_t_scores, .inl (cy 0, 16, .inl t_scores)), (q_t_isIn, .inl (cy 3, 16, .inl t_isIn)), (q_t_order, .inl (cy 0, 16, .inl t_order))] (fun v w => ∃ (r : Int32) (t_ranked' : Int32) (t_m' : Nat → Int32) (t_counts' : Nat → Int32) (t_scores' : Nat → Int32) (t_isIn' : Nat → Int32) (t_order' : Nat → Int32), v = some (.int r) ∧ w = [(q_t, .inr (6, [.ref q_t_m, .ref q_t_saved, .int t_savedCount, .ref q_t_text, .int t_textLength, .int t_code, .int t_at, .ref q_t_read, .int t_number, .ref q_t_counts, .ref q_t_scores, .ref q_t_isIn, .ref q_t_order, .int t_ranked', .int t_emptySide, .ref q_t_row, .ref q_t_listing, .int t_listingLength, .long t_hash])), (q_t_m, .inl (cy 0, 378, .inl t_m')), (q_t_counts, .inl (cy 0, 96, .inl t_counts')), (q_t_scores, .inl (cy 0, 16, .inl t_scores')), (q_t_isIn, .inl (cy 3, 16, .inl t_isIn')), (q_t_order, .inl (cy 0, 16, .inl t_order'))] ∧ Q r t_ranked' t_m' t_counts' t_scores' t_isIn' t_order') := by
  refine UC_of (by decide +kernel) (Nat.le_of_ble_eq_true rfl) [(0, .ref q_t), (1, .int x1), (2, .int x2)] rfl (fun p e s m args below meth c A cx => ?_)
  unfold p_X6_leastIn at h
  refine v_aload_n cx dX6_leastIn_0 rfl 0 rfl ?_
  refine g_X6_7 cx dX6_leastIn_1 0 rfl rfl ?_
  refine v_iload_n cx dX6_leastIn_4 rfl 1 rfl ?_
  refine v_iald cx dX6_leastIn_5 1 rfl h (fun h => ?_)
  refine v_istore_n (lv' := [(3, .int (t_m x1.toNatClampNeg)), (0, .ref q_t), (1, .int x1), (2, .int x2)]) cx dX6_leastIn_6 rfl (by decide) rfl ?_
  refine v_iconst (v := (-1)) cx dX6_leastIn_7 (by decide) ?_
  refine v_istore (lv' := [(4, .int (-1)), (3, .int (t_m x1.toNatClampNeg)), (0, .ref q_t), (1, .int x1), (2, .int x2)]) cx dX6_leastIn_8 (by decide) rfl ?_
  refine v_aload_n cx dX6_leastIn_10 rfl 2 rfl ?_
  refine v_callV (As := []) cx (c_X6_count l g D cy q_t q_t_m q_t_saved q_t_text q_t_read q_t_counts q_t_scores q_t_isIn q_t_order q_t_row q_t_listing h) k_X6_173 (by decide) (by decide) rfl rfl (Nat.le_of_ble_eq_true rfl) dX6_leastIn_11 [0, 1, 2] [3, 4, 5] (by decide) rfl rfl rfl (q0 := 0) rfl rfl (fun v9 w9 hp => ?_)
  obtain ⟨u_1, rfl, rfl, h⟩ := hp
  refine v_afterJ (ws' := [(q_t, .inr (6, [.ref q_t_m, .ref q_t_saved, .int t_savedCount, .ref q_t_text, .int t_textLength, .int t_code, .int t_at, .ref q_t_read, .int t_number, .ref q_t_counts, .ref q_t_scores, .ref q_t_isIn, .ref q_t_order, .int t_ranked, .int t_emptySide, .ref q_t_row, .ref q_t_listing, .int t_listingLength, .long t_hash])), (q_t_m, .inl (cy 0, 378, .inl t_m)), (q_t_counts, .inl (cy 0, 96, .inl u_1)), (q_t_scores, .inl (cy 0, 16, .inl t_scores)), (q_t_isIn, .inl (cy 3, 16, .inl t_isIn)), (q_t_order, .inl (cy 0, 16, .inl t_order))]) (st' := []) (ce := 0) (sl := 0) 6 [6, 7, 8, 3, 4, 5] (by decide +kernel) (by decide +kernel) rfl rfl ⟨rfl, rfl⟩ ?_
  refine v_iconst (v := 0) cx dX6_leastIn_14 (by decide) ?_
  refine v_istore (lv' := [(5, .int 0), (4, .int (-1)), (3, .int (t_m x1.toNatClampNeg)), (0, .ref q_t), (1, .int x1), (2, .int x2)]) cx dX6_leastIn_15 (by decide) rfl ?_
  refine v_lv (lv' := [(0, .ref q_t), (1, .int x1), (2, .int x2), (3, .int (t_m x1.toNatClampNeg)), (4, .int (-1)), (5, .int 0)]) [3, 4, 5, 2, 1, 0] rfl ?_
  refine w_X6_leastIn_17 cx q_t q_t_m q_t_saved q_t_text q_t_read q_t_counts q_t_scores q_t_isIn q_t_order q_t_row q_t_listing ?_ N _ _ _ _ _ _ _ h
  · intro x4_7 x5_8 t_ranked_9 t_m_10 t_scores_11 t_isIn_12 t_order_13 h
    refine v_aload_n cx dX6_leastIn_66 rfl 0 rfl ?_
    refine g_X6_7 cx dX6_leastIn_67 0 rfl rfl ?_
    refine v_iload_n cx dX6_leastIn_70 rfl 1 rfl ?_
    refine v_iload_n cx dX6_leastIn_71 rfl 3 rfl ?_
    refine v_iast (ws' := [(q_t, .inr (6, [.ref q_t_m, .ref q_t_saved, .int t_savedCount, .ref q_t_text, .int t_textLength, .int t_code, .int t_at, .ref q_t_read, .int t_number, .ref q_t_counts, .ref q_t_scores, .ref q_t_isIn, .ref q_t_order, .int t_ranked_9, .int t_emptySide, .ref q_t_row, .ref q_t_listing, .int t_listingLength, .long t_hash])), (q_t_m, .inl (cy 0, 378, .inl (upd t_m_10 x1.toNatClampNeg (t_m x1.toNatClampNeg)))), (q_t_counts, .inl (cy 0, 96, .inl u_1)), (q_t_scores, .inl (cy 0, 16, .inl t_scores_11)), (q_t_isIn, .inl (cy 3, 16, .inl t_isIn_12)), (q_t_order, .inl (cy 0, 16, .inl t_order_13))]) cx dX6_leastIn_72 1 rfl h rfl (fun h => ?_)
    refine v_iload cx dX6_leastIn_73 4 rfl ?_
    exact v_ireturn cx rfl dX6_leastIn_75 ⟨_, _, _, _, _, _, _, rfl, rfl, h⟩
abbrev rm_X6_leastWeight : Room := { frames := 6, cells := 0, slots := 0, locals := 139 }
set_option maxHeartbeats 4000000 in
set_option maxRecDepth 100000 in
theorem c_X6_leastWeight (l : Launch) (g : gT) (D : va_G) (cy : Nat → ClassId) (q_t q_t_m q_t_saved q_t_text q_t_read q_t_counts q_t_scores q_t_isIn q_t_order q_t_row q_t_listing : Nat) {t_savedCount : Int32} {t_textLength : Int32} {t_code : Int32} {t_at : Int32} {t_number : Int32} {t_ranked : Int32} {t_emptySide : Int32} {t_listingLength : Int32} {t_hash : Int64} {t_m : Nat → Int32} {t_counts : Nat → Int32} {t_scores : Nat → Int32} {t_isIn : Nat → Int32} {t_order : Nat → Int32} {x1 : Int32} {x2 : Int32} {x3 : Int32} {x4 : Int32} {N : Nat} {Q : Int32 → Int32 → Int32 → (Nat → Int32) → (Nat → Int32) → (Nat → Int32) → (Nat → Int32) → (Nat → Int32) → Prop} (h : p_X6_leastWeight N t_savedCount t_textLength t_code t_at t_number t_ranked t_emptySide t_listingLength t_hash t_m t_counts t_scores t_isIn t_order x1 x2 x3 x4 Q) : UC l yX6_leastWeight cX6_leastWeight 5 (some .int) rm_X6_leastWeight g D cy [.ref q_t, .int x1, .int x2, .int x3, .int x4] [(q_t, .inr (6, [.ref q_t_m, .ref q_t_saved, .int t_savedCount, .ref q_t_text, .int t_textLength, .int t_code, .int t_at, .ref q_t_read, .int t_number, .ref q_t_counts, .ref q_t_scores, .ref q_t_isIn, .ref q_t_order, .int t_ranked, .int t_emptySide, .ref q_t_row, .ref q_t_listing, .int t_listingLength, .long t_hash])), (q_t_m, .inl (cy 0, 378, .inl t_m)), (q_t_counts, .inl (cy 0, 96, .inl t_counts)), (q_t_scores, .inl (cy 0, 16, .inl t_scores)), (q_t_isIn, .inl (cy 3, 16, .inl t_isIn)), (q_t_order, .inl (cy 0, 16, .inl t_order))] (fun v w => ∃ (r : Int32) (t_code' : Int32) (t_ranked' : Int32) (t_m' : Nat → Int32) (t_counts' : Nat → Int32) (t_scores' : Nat → Int32) (t_isIn' : Nat → Int32) (t_order' : Nat → Int32), v = some (.int r) ∧ w = [(q_t, .inr (6, [.ref q_t_m, .ref q_t_saved, .int t_savedCount, .ref q_t_text, .int t_textLength, .int t_code', .int t_at, .ref q_t_read, .int t_number, .ref q_t_counts, .ref q_t_scores, .ref q_t_isIn, .ref q_t_order, .int t_ranked', .int t_emptySide, .ref q_t_row, .ref q_t_listing, .int t_listingLength, .long t_hash])), (q_t_m, .inl (cy 0, 378, .inl t_m')), (q_t_counts, .inl (cy 0, 96, .inl t_counts')), (q_t_scores, .inl (cy 0, 16, .inl t_scores')), (q_t_isIn, .inl (cy 3, 16, .inl t_isIn')), (q_t_order, .inl (cy 0, 16, .inl t_order'))] ∧ Q r t_code' t_ranked' t_m' t_counts' t_scores' t_isIn' t_order') := by
  refine UC_of (by decide +kernel) (Nat.le_of_ble_eq_true rfl) [(0, .ref q_t), (1, .int x1), (2, .int x2), (3, .int x3), (4, .int x4)] rfl (fun p e s m args below meth c A cx => ?_)
  unfold p_X6_leastWeight at h
  refine v_aload_n cx dX6_leastWeight_0 rfl 0 rfl ?_
  refine v_aload_n cx dX6_leastWeight_1 rfl 0 rfl ?_
  refine v_iload_n cx dX6_leastWeight_2 rfl 1 rfl ?_
  refine v_iload_n cx dX6_leastWeight_3 rfl 2 rfl ?_
  refine v_iload_n cx dX6_leastWeight_4 rfl 3 rfl ?_
  refine v_callVpi (As := [.int x1, .int x2, .int x3]) cx (c_X6_isEntry l g D cy q_t q_t_m q_t_saved q_t_text q_t_read q_t_counts q_t_scores q_t_isIn q_t_order q_t_row q_t_listing h) k_X6_131 (by decide) ⟨rfl, rfl⟩ (by decide) rfl rfl (Nat.le_of_ble_eq_true rfl) dX6_leastWeight_5 [0, 1] [2, 3, 4, 5] (by decide) (vj_all 6 rfl (by decide +kernel)) rfl rfl rfl (q0 := 0) rfl rfl (fun r_1 h => ?_)
  refine v_if_eq (tgt := 24) cx dX6_leastWeight_8 (by decide) h (fun h => ?_) (fun h => ?_)
  · refine v_iconst (v := 1) cx dX6_leastWeight_24 (by decide) ?_
    refine p_X6_45 (ws' := [(q_t, .inr (6, [.ref q_t_m, .ref q_t_saved, .int t_savedCount, .ref q_t_text, .int t_textLength, .int 1, .int t_at, .ref q_t_read, .int t_number, .ref q_t_counts, .ref q_t_scores, .ref q_t_isIn, .ref q_t_order, .int t_ranked, .int t_emptySide, .ref q_t_row, .ref q_t_listing, .int t_listingLength, .long t_hash])), (q_t_m, .inl (cy 0, 378, .inl t_m)), (q_t_counts, .inl (cy 0, 96, .inl t_counts)), (q_t_scores, .inl (cy 0, 16, .inl t_scores)), (q_t_isIn, .inl (cy 3, 16, .inl t_isIn)), (q_t_order, .inl (cy 0, 16, .inl t_order))]) cx dX6_leastWeight_25 0 rfl rfl rfl (Nat.le_of_ble_eq_true rfl) rfl ?_
    refine v_aload_n cx dX6_leastWeight_28 rfl 0 rfl ?_
    refine g_X6_45 cx dX6_leastWeight_29 0 rfl rfl ?_
    refine v_if_eq (tgt := 39) (P1 := False) (P2 := True) cx dX6_leastWeight_32 (by decide) (by decide) (fun z => z.elim) (fun _ => ?_)
    refine v_iconst (v := 0) cx dX6_leastWeight_35 (by decide) ?_
    refine v_goto (tgt := 63) cx dX6_leastWeight_36 (by decide) ?_
    exact v_ireturn cx rfl dX6_leastWeight_63 ⟨_, _, _, _, _, _, _, _, rfl, rfl, h⟩
  · refine v_aload_n cx dX6_leastWeight_11 rfl 0 rfl ?_
    refine v_iload cx dX6_leastWeight_12 4 rfl ?_
    refine v_callVpi (As := [.int x4]) cx (c_X6_isVariant l g D cy q_t q_t_m q_t_saved q_t_text q_t_read q_t_counts q_t_scores q_t_isIn q_t_order q_t_row q_t_listing h) k_X6_124 (by decide) ⟨rfl, rfl⟩ (by decide) rfl rfl (Nat.le_of_ble_eq_true rfl) dX6_leastWeight_14 [0, 1] [2, 3, 4, 5] (by decide) (vj_all 6 rfl (by decide +kernel)) rfl rfl rfl (q0 := 0) rfl rfl (fun r_2 h => ?_)
    refine v_if_eq (tgt := 24) cx dX6_leastWeight_17 (by decide) h (fun h => ?_) (fun h => ?_)
    · refine v_iconst (v := 1) cx dX6_leastWeight_24 (by decide) ?_
      refine p_X6_45 (ws' := [(q_t, .inr (6, [.ref q_t_m, .ref q_t_saved, .int t_savedCount, .ref q_t_text, .int t_textLength, .int 1, .int t_at, .ref q_t_read, .int t_number, .ref q_t_counts, .ref q_t_scores, .ref q_t_isIn, .ref q_t_order, .int t_ranked, .int t_emptySide, .ref q_t_row, .ref q_t_listing, .int t_listingLength, .long t_hash])), (q_t_m, .inl (cy 0, 378, .inl t_m)), (q_t_counts, .inl (cy 0, 96, .inl t_counts)), (q_t_scores, .inl (cy 0, 16, .inl t_scores)), (q_t_isIn, .inl (cy 3, 16, .inl t_isIn)), (q_t_order, .inl (cy 0, 16, .inl t_order))]) cx dX6_leastWeight_25 0 rfl rfl rfl (Nat.le_of_ble_eq_true rfl) rfl ?_
      refine v_aload_n cx dX6_leastWeight_28 rfl 0 rfl ?_
      refine g_X6_45 cx dX6_leastWeight_29 0 rfl rfl ?_
      refine v_if_eq (tgt := 39) (P1 := False) (P2 := True) cx dX6_leastWeight_32 (by decide) (by decide) (fun z => z.elim) (fun _ => ?_)
      refine v_iconst (v := 0) cx dX6_leastWeight_35 (by decide) ?_
      refine v_goto (tgt := 63) cx dX6_leastWeight_36 (by decide) ?_
      exact v_ireturn cx rfl dX6_leastWeight_63 ⟨_, _, _, _, _, _, _, _, rfl, rfl, h⟩
    · refine v_iconst (v := 0) cx dX6_leastWeight_20 (by decide) ?_
      refine v_goto (tgt := 25) cx dX6_leastWeight_21 (by decide) ?_
      refine p_X6_45 (ws' := [(q_t, .inr (6, [.ref q_t_m, .ref q_t_saved, .int t_savedCount, .ref q_t_text, .int t_textLength, .int 0, .int t_at, .ref q_t_read, .int t_number, .ref q_t_counts, .ref q_t_scores, .ref q_t_isIn, .ref q_t_order, .int t_ranked, .int t_emptySide, .ref q_t_row, .ref q_t_listing, .int t_listingLength, .long t_hash])), (q_t_m, .inl (cy 0, 378, .inl t_m)), (q_t_counts, .inl (cy 0, 96, .inl t_counts)), (q_t_scores, .inl (cy 0, 16, .inl t_scores)), (q_t_isIn, .inl (cy 3, 16, .inl t_isIn)), (q_t_order, .inl (cy 0, 16, .inl t_order))]) cx dX6_leastWeight_25 0 rfl rfl rfl (Nat.le_of_ble_eq_true rfl) rfl ?_
      refine v_aload_n cx dX6_leastWeight_28 rfl 0 rfl ?_
      refine g_X6_45 cx dX6_leastWeight_29 0 rfl rfl ?_
      refine v_if_eq (tgt := 39) (P1 := True) (P2 := False) cx dX6_leastWeight_32 (by decide) (by decide) (fun _ => ?_) (fun z => z.elim)
      refine v_aload_n cx dX6_leastWeight_39 rfl 0 rfl ?_
      refine v_sipush (v := 138) cx dX6_leastWeight_40 (by decide) ?_
      refine v_bipush (v := 40) cx dX6_leastWeight_43 (by decide) ?_
      refine v_iload_n cx dX6_leastWeight_45 rfl 1 rfl ?_
      refine v_iload_n cx dX6_leastWeight_46 rfl 2 rfl ?_
      refine v_callSpi (As := [.int x1, .int x2]) cx (c_X6_listOf l g D cy  h) k_X6_59 (by decide) ⟨rfl, rfl⟩ (by decide) rfl rfl (Nat.le_of_ble_eq_true rfl) dX6_leastWeight_47 [] [0, 1, 2, 3, 4, 5] (by decide) (vj_all 6 rfl (by decide +kernel)) rfl rfl rfl (fun r_3 h => ?_)
      refine v_imul cx dX6_leastWeight_50 ?_
      refine v_iadd cx dX6_leastWeight_51 ?_
      refine v_iconst (v := 4) cx dX6_leastWeight_52 (by decide) ?_
      refine v_iload_n cx dX6_leastWeight_53 rfl 3 rfl ?_
      refine v_imul cx dX6_leastWeight_54 ?_
      refine v_iadd cx dX6_leastWeight_55 ?_
      refine v_iconst (v := 3) cx dX6_leastWeight_56 (by decide) ?_
      refine v_iadd cx dX6_leastWeight_57 ?_
      refine v_iload cx dX6_leastWeight_58 4 rfl ?_
      refine v_callV (As := [.int (((138 + (40 * r_3)) + (4 * x3)) + 3), .int x4]) cx (c_X6_leastIn l g D cy q_t q_t_m q_t_saved q_t_text q_t_read q_t_counts q_t_scores q_t_isIn q_t_order q_t_row q_t_listing h) k_X6_233 (by decide) (by decide) rfl rfl (Nat.le_of_ble_eq_true rfl) dX6_leastWeight_60 [0, 1, 2, 3, 4, 5] [] (by decide) rfl rfl rfl (q0 := 0) rfl rfl (fun v9 w9 hp => ?_)
      refine Exists.elim hp fun r_4 hp => Exists.elim hp fun u_5 hp => Exists.elim hp fun u_6 hp => Exists.elim hp fun u_7 hp => Exists.elim hp fun u_8 hp => Exists.elim hp fun u_9 hp => Exists.elim hp fun u_10 hp => ?_
      obtain ⟨rfl, rfl, h⟩ := hp
      refine v_afterJ (ws' := [(q_t, .inr (6, [.ref q_t_m, .ref q_t_saved, .int t_savedCount, .ref q_t_text, .int t_textLength, .int 0, .int t_at, .ref q_t_read, .int t_number, .ref q_t_counts, .ref q_t_scores, .ref q_t_isIn, .ref q_t_order, .int u_5, .int t_emptySide, .ref q_t_row, .ref q_t_listing, .int t_listingLength, .long t_hash])), (q_t_m, .inl (cy 0, 378, .inl u_6)), (q_t_counts, .inl (cy 0, 96, .inl u_7)), (q_t_scores, .inl (cy 0, 16, .inl u_8)), (q_t_isIn, .inl (cy 3, 16, .inl u_9)), (q_t_order, .inl (cy 0, 16, .inl u_10))]) (st' := [.int r_4]) (ce := 0) (sl := 0) 6 [6, 7, 8, 9, 10, 11] (by decide +kernel) (by decide +kernel) rfl rfl ⟨rfl, rfl⟩ ?_
      exact v_ireturn cx rfl dX6_leastWeight_63 ⟨_, _, _, _, _, _, _, _, rfl, rfl, h⟩
abbrev rm_X6_leastQuality : Room := { frames := 6, cells := 0, slots := 0, locals := 139 }
set_option maxHeartbeats 4000000 in
set_option maxRecDepth 100000 in
theorem c_X6_leastQuality (l : Launch) (g : gT) (D : va_G) (cy : Nat → ClassId) (q_t q_t_m q_t_saved q_t_text q_t_read q_t_counts q_t_scores q_t_isIn q_t_order q_t_row q_t_listing : Nat) {t_savedCount : Int32} {t_textLength : Int32} {t_code : Int32} {t_at : Int32} {t_number : Int32} {t_ranked : Int32} {t_emptySide : Int32} {t_listingLength : Int32} {t_hash : Int64} {t_m : Nat → Int32} {t_counts : Nat → Int32} {t_scores : Nat → Int32} {t_isIn : Nat → Int32} {t_order : Nat → Int32} {x1 : Int32} {N : Nat} {Q : Int32 → Int32 → Int32 → (Nat → Int32) → (Nat → Int32) → (Nat → Int32) → (Nat → Int32) → (Nat → Int32) → Prop} (h : p_X6_leastQuality N t_savedCount t_textLength t_code t_at t_number t_ranked t_emptySide t_listingLength t_hash t_m t_counts t_scores t_isIn t_order x1 Q) : UC l yX6_leastQuality cX6_leastQuality 2 (some .int) rm_X6_leastQuality g D cy [.ref q_t, .int x1] [(q_t, .inr (6, [.ref q_t_m, .ref q_t_saved, .int t_savedCount, .ref q_t_text, .int t_textLength, .int t_code, .int t_at, .ref q_t_read, .int t_number, .ref q_t_counts, .ref q_t_scores, .ref q_t_isIn, .ref q_t_order, .int t_ranked, .int t_emptySide, .ref q_t_row, .ref q_t_listing, .int t_listingLength, .long t_hash])), (q_t_m, .inl (cy 0, 378, .inl t_m)), (q_t_counts, .inl (cy 0, 96, .inl t_counts)), (q_t_scores, .inl (cy 0, 16, .inl t_scores)), (q_t_isIn, .inl (cy 3, 16, .inl t_isIn)), (q_t_order, .inl (cy 0, 16, .inl t_order))] (fun v w => ∃ (r : Int32) (t_code' : Int32) (t_ranked' : Int32) (t_m' : Nat → Int32) (t_counts' : Nat → Int32) (t_scores' : Nat → Int32) (t_isIn' : Nat → Int32) (t_order' : Nat → Int32), v = some (.int r) ∧ w = [(q_t, .inr (6, [.ref q_t_m, .ref q_t_saved, .int t_savedCount, .ref q_t_text, .int t_textLength, .int t_code', .int t_at, .ref q_t_read, .int t_number, .ref q_t_counts, .ref q_t_scores, .ref q_t_isIn, .ref q_t_order, .int t_ranked', .int t_emptySide, .ref q_t_row, .ref q_t_listing, .int t_listingLength, .long t_hash])), (q_t_m, .inl (cy 0, 378, .inl t_m')), (q_t_counts, .inl (cy 0, 96, .inl t_counts')), (q_t_scores, .inl (cy 0, 16, .inl t_scores')), (q_t_isIn, .inl (cy 3, 16, .inl t_isIn')), (q_t_order, .inl (cy 0, 16, .inl t_order'))] ∧ Q r t_code' t_ranked' t_m' t_counts' t_scores' t_isIn' t_order') := by
  refine UC_of (by decide +kernel) (Nat.le_of_ble_eq_true rfl) [(0, .ref q_t), (1, .int x1)] rfl (fun p e s m args below meth c A cx => ?_)
  unfold p_X6_leastQuality at h
  refine v_aload_n cx dX6_leastQuality_0 rfl 0 rfl ?_
  refine v_aload_n cx dX6_leastQuality_1 rfl 0 rfl ?_
  refine v_iload_n cx dX6_leastQuality_2 rfl 1 rfl ?_
  refine v_callVpi (As := [.int x1]) cx (c_X6_isVariant l g D cy q_t q_t_m q_t_saved q_t_text q_t_read q_t_counts q_t_scores q_t_isIn q_t_order q_t_row q_t_listing h) k_X6_124 (by decide) ⟨rfl, rfl⟩ (by decide) rfl rfl (Nat.le_of_ble_eq_true rfl) dX6_leastQuality_3 [0, 1] [2, 3, 4, 5] (by decide) (vj_all 6 rfl (by decide +kernel)) rfl rfl rfl (q0 := 0) rfl rfl (fun r_1 h => ?_)
  refine v_if_eq (tgt := 13) cx dX6_leastQuality_6 (by decide) h (fun h => ?_) (fun h => ?_)
  · refine v_iconst (v := 1) cx dX6_leastQuality_13 (by decide) ?_
    refine p_X6_45 (ws' := [(q_t, .inr (6, [.ref q_t_m, .ref q_t_saved, .int t_savedCount, .ref q_t_text, .int t_textLength, .int 1, .int t_at, .ref q_t_read, .int t_number, .ref q_t_counts, .ref q_t_scores, .ref q_t_isIn, .ref q_t_order, .int t_ranked, .int t_emptySide, .ref q_t_row, .ref q_t_listing, .int t_listingLength, .long t_hash])), (q_t_m, .inl (cy 0, 378, .inl t_m)), (q_t_counts, .inl (cy 0, 96, .inl t_counts)), (q_t_scores, .inl (cy 0, 16, .inl t_scores)), (q_t_isIn, .inl (cy 3, 16, .inl t_isIn)), (q_t_order, .inl (cy 0, 16, .inl t_order))]) cx dX6_leastQuality_14 0 rfl rfl rfl (Nat.le_of_ble_eq_true rfl) rfl ?_
    refine v_aload_n cx dX6_leastQuality_17 rfl 0 rfl ?_
    refine g_X6_45 cx dX6_leastQuality_18 0 rfl rfl ?_
    refine v_if_eq (tgt := 28) (P1 := False) (P2 := True) cx dX6_leastQuality_21 (by decide) (by decide) (fun z => z.elim) (fun _ => ?_)
    refine v_iconst (v := 0) cx dX6_leastQuality_24 (by decide) ?_
    refine v_goto (tgt := 43) cx dX6_leastQuality_25 (by decide) ?_
    exact v_ireturn cx rfl dX6_leastQuality_43 ⟨_, _, _, _, _, _, _, _, rfl, rfl, h⟩
  · refine v_iconst (v := 0) cx dX6_leastQuality_9 (by decide) ?_
    refine v_goto (tgt := 14) cx dX6_leastQuality_10 (by decide) ?_
    refine p_X6_45 (ws' := [(q_t, .inr (6, [.ref q_t_m, .ref q_t_saved, .int t_savedCount, .ref q_t_text, .int t_textLength, .int 0, .int t_at, .ref q_t_read, .int t_number, .ref q_t_counts, .ref q_t_scores, .ref q_t_isIn, .ref q_t_order, .int t_ranked, .int t_emptySide, .ref q_t_row, .ref q_t_listing, .int t_listingLength, .long t_hash])), (q_t_m, .inl (cy 0, 378, .inl t_m)), (q_t_counts, .inl (cy 0, 96, .inl t_counts)), (q_t_scores, .inl (cy 0, 16, .inl t_scores)), (q_t_isIn, .inl (cy 3, 16, .inl t_isIn)), (q_t_order, .inl (cy 0, 16, .inl t_order))]) cx dX6_leastQuality_14 0 rfl rfl rfl (Nat.le_of_ble_eq_true rfl) rfl ?_
    refine v_aload_n cx dX6_leastQuality_17 rfl 0 rfl ?_
    refine g_X6_45 cx dX6_leastQuality_18 0 rfl rfl ?_
    refine v_if_eq (tgt := 28) (P1 := True) (P2 := False) cx dX6_leastQuality_21 (by decide) (by decide) (fun _ => ?_) (fun z => z.elim)
    refine v_aload_n cx dX6_leastQuality_28 rfl 0 rfl ?_
    refine v_bipush (v := 10) cx dX6_leastQuality_29 (by decide) ?_
    refine v_bipush (v := 8) cx dX6_leastQuality_31 (by decide) ?_
    refine v_iload_n cx dX6_leastQuality_33 rfl 1 rfl ?_
    refine v_imul cx dX6_leastQuality_34 ?_
    refine v_iadd cx dX6_leastQuality_35 ?_
    refine v_bipush (v := 7) cx dX6_leastQuality_36 (by decide) ?_
    refine v_iadd cx dX6_leastQuality_38 ?_
    refine v_iload_n cx dX6_leastQuality_39 rfl 1 rfl ?_
    refine v_callV (As := [.int ((10 + (8 * x1)) + 7), .int x1]) cx (c_X6_leastIn l g D cy q_t q_t_m q_t_saved q_t_text q_t_read q_t_counts q_t_scores q_t_isIn q_t_order q_t_row q_t_listing h) k_X6_233 (by decide) (by decide) rfl rfl (Nat.le_of_ble_eq_true rfl) dX6_leastQuality_40 [0, 1, 2, 3, 4, 5] [] (by decide) rfl rfl rfl (q0 := 0) rfl rfl (fun v9 w9 hp => ?_)
    refine Exists.elim hp fun r_2 hp => Exists.elim hp fun u_3 hp => Exists.elim hp fun u_4 hp => Exists.elim hp fun u_5 hp => Exists.elim hp fun u_6 hp => Exists.elim hp fun u_7 hp => Exists.elim hp fun u_8 hp => ?_
    obtain ⟨rfl, rfl, h⟩ := hp
    refine v_afterJ (ws' := [(q_t, .inr (6, [.ref q_t_m, .ref q_t_saved, .int t_savedCount, .ref q_t_text, .int t_textLength, .int 0, .int t_at, .ref q_t_read, .int t_number, .ref q_t_counts, .ref q_t_scores, .ref q_t_isIn, .ref q_t_order, .int u_3, .int t_emptySide, .ref q_t_row, .ref q_t_listing, .int t_listingLength, .long t_hash])), (q_t_m, .inl (cy 0, 378, .inl u_4)), (q_t_counts, .inl (cy 0, 96, .inl u_5)), (q_t_scores, .inl (cy 0, 16, .inl u_6)), (q_t_isIn, .inl (cy 3, 16, .inl u_7)), (q_t_order, .inl (cy 0, 16, .inl u_8))]) (st' := [.int r_2]) (ce := 0) (sl := 0) 6 [6, 7, 8, 9, 10, 11] (by decide +kernel) (by decide +kernel) rfl rfl ⟨rfl, rfl⟩ ?_
    exact v_ireturn cx rfl dX6_leastQuality_43 ⟨_, _, _, _, _, _, _, _, rfl, rfl, h⟩
abbrev rm_X6_agree : Room := { frames := 6, cells := 0, slots := 0, locals := 135 }
set_option maxHeartbeats 4000000 in
set_option maxRecDepth 100000 in
theorem c_X6_agree (l : Launch) (g : gT) (D : va_G) (cy : Nat → ClassId) (q_t q_t_m q_t_saved q_t_text q_t_read q_t_counts q_t_scores q_t_isIn q_t_order q_t_row q_t_listing : Nat) {t_savedCount : Int32} {t_textLength : Int32} {t_code : Int32} {t_at : Int32} {t_number : Int32} {t_ranked : Int32} {t_emptySide : Int32} {t_listingLength : Int32} {t_hash : Int64} {t_m : Nat → Int32} {t_counts : Nat → Int32} {t_scores : Nat → Int32} {t_isIn : Nat → Int32} {t_order : Nat → Int32} {N : Nat} {Q : Int32 → Int32 → Int32 → Int32 → (Nat → Int32) → (Nat → Int32) → (Nat → Int32) → (Nat → Int32) → Prop} (h : p_X6_agree N t_savedCount t_textLength t_code t_at t_number t_ranked t_emptySide t_listingLength t_hash t_m t_counts t_scores t_isIn t_order Q) : UC l yX6_agree cX6_agree 1 (some .boolean) rm_X6_agree g D cy [.ref q_t] [(q_t, .inr (6, [.ref q_t_m, .ref q_t_saved, .int t_savedCount, .ref q_t_text, .int t_textLength, .int t_code, .int t_at, .ref q_t_read, .int t_number, .ref q_t_counts, .ref q_t_scores, .ref q_t_isIn, .ref q_t_order, .int t_ranked, .int t_emptySide, .ref q_t_row, .ref q_t_listing, .int t_listingLength, .long t_hash])), (q_t_m, .inl (cy 0, 378, .inl t_m)), (q_t_counts, .inl (cy 0, 96, .inl t_counts)), (q_t_scores, .inl (cy 0, 16, .inl t_scores)), (q_t_isIn, .inl (cy 3, 16, .inl t_isIn)), (q_t_order, .inl (cy 0, 16, .inl t_order))] (fun v w => ∃ (r : Int32) (t_code' : Int32) (t_ranked' : Int32) (t_emptySide' : Int32) (t_counts' : Nat → Int32) (t_scores' : Nat → Int32) (t_isIn' : Nat → Int32) (t_order' : Nat → Int32), v = some (.int r) ∧ w = [(q_t, .inr (6, [.ref q_t_m, .ref q_t_saved, .int t_savedCount, .ref q_t_text, .int t_textLength, .int t_code', .int t_at, .ref q_t_read, .int t_number, .ref q_t_counts, .ref q_t_scores, .ref q_t_isIn, .ref q_t_order, .int t_ranked', .int t_emptySide', .ref q_t_row, .ref q_t_listing, .int t_listingLength, .long t_hash])), (q_t_m, .inl (cy 0, 378, .inl t_m)), (q_t_counts, .inl (cy 0, 96, .inl t_counts')), (q_t_scores, .inl (cy 0, 16, .inl t_scores')), (q_t_isIn, .inl (cy 3, 16, .inl t_isIn')), (q_t_order, .inl (cy 0, 16, .inl t_order'))] ∧ Q r t_code' t_ranked' t_emptySide' t_counts' t_scores' t_isIn' t_order') := by
  refine UC_of (by decide +kernel) (Nat.le_of_ble_eq_true rfl) [(0, .ref q_t)] rfl (fun p e s m args below meth c A cx => ?_)
  unfold p_X6_agree at h
  refine v_aload_n cx dX6_agree_0 rfl 0 rfl ?_
  refine v_iconst (v := 0) cx dX6_agree_1 (by decide) ?_
  refine p_X6_45 (ws' := [(q_t, .inr (6, [.ref q_t_m, .ref q_t_saved, .int t_savedCount, .ref q_t_text, .int t_textLength, .int 0, .int t_at, .ref q_t_read, .int t_number, .ref q_t_counts, .ref q_t_scores, .ref q_t_isIn, .ref q_t_order, .int t_ranked, .int t_emptySide, .ref q_t_row, .ref q_t_listing, .int t_listingLength, .long t_hash])), (q_t_m, .inl (cy 0, 378, .inl t_m)), (q_t_counts, .inl (cy 0, 96, .inl t_counts)), (q_t_scores, .inl (cy 0, 16, .inl t_scores)), (q_t_isIn, .inl (cy 3, 16, .inl t_isIn)), (q_t_order, .inl (cy 0, 16, .inl t_order))]) cx dX6_agree_2 0 rfl rfl rfl (Nat.le_of_ble_eq_true rfl) rfl ?_
  refine v_aload_n cx dX6_agree_5 rfl 0 rfl ?_
  refine v_iconst (v := 0) cx dX6_agree_6 (by decide) ?_
  refine v_callV (As := [.int 0]) cx (c_X6_servedBy l g D cy q_t q_t_m q_t_saved q_t_text q_t_read q_t_counts q_t_scores q_t_isIn q_t_order q_t_row q_t_listing h) k_X6_230 (by decide) (by decide) rfl rfl (Nat.le_of_ble_eq_true rfl) dX6_agree_7 [0, 1, 2, 3, 4, 5] [] (by decide) rfl rfl rfl (q0 := 0) rfl rfl (fun v9 w9 hp => ?_)
  refine Exists.elim hp fun r_1 hp => Exists.elim hp fun u_2 hp => Exists.elim hp fun u_3 hp => Exists.elim hp fun u_4 hp => Exists.elim hp fun u_5 hp => Exists.elim hp fun u_6 hp => Exists.elim hp fun u_7 hp => ?_
  obtain ⟨rfl, rfl, h⟩ := hp
  refine v_afterJ (ws' := [(q_t, .inr (6, [.ref q_t_m, .ref q_t_saved, .int t_savedCount, .ref q_t_text, .int t_textLength, .int 0, .int t_at, .ref q_t_read, .int t_number, .ref q_t_counts, .ref q_t_scores, .ref q_t_isIn, .ref q_t_order, .int u_2, .int u_3, .ref q_t_row, .ref q_t_listing, .int t_listingLength, .long t_hash])), (q_t_m, .inl (cy 0, 378, .inl t_m)), (q_t_counts, .inl (cy 0, 96, .inl u_4)), (q_t_scores, .inl (cy 0, 16, .inl u_5)), (q_t_isIn, .inl (cy 3, 16, .inl u_6)), (q_t_order, .inl (cy 0, 16, .inl u_7))]) (st' := [.int r_1]) (ce := 0) (sl := 0) 6 [6, 7, 8, 9, 10, 11] (by decide +kernel) (by decide +kernel) rfl rfl ⟨rfl, rfl⟩ ?_
  refine v_aload_n cx dX6_agree_10 rfl 0 rfl ?_
  refine v_iconst (v := 1) cx dX6_agree_11 (by decide) ?_
  refine v_callV (As := [.int 1]) cx (c_X6_servedBy l g D cy q_t q_t_m q_t_saved q_t_text q_t_read q_t_counts q_t_scores q_t_isIn q_t_order q_t_row q_t_listing h) k_X6_230 (by decide) (by decide) rfl rfl (Nat.le_of_ble_eq_true rfl) dX6_agree_12 [0, 1, 2, 3, 4, 5] [] (by decide) rfl rfl rfl (q0 := 0) rfl rfl (fun v9 w9 hp => ?_)
  refine Exists.elim hp fun r_8 hp => Exists.elim hp fun u_9 hp => Exists.elim hp fun u_10 hp => Exists.elim hp fun u_11 hp => Exists.elim hp fun u_12 hp => Exists.elim hp fun u_13 hp => Exists.elim hp fun u_14 hp => ?_
  obtain ⟨rfl, rfl, h⟩ := hp
  refine v_afterJ (ws' := [(q_t, .inr (6, [.ref q_t_m, .ref q_t_saved, .int t_savedCount, .ref q_t_text, .int t_textLength, .int 0, .int t_at, .ref q_t_read, .int t_number, .ref q_t_counts, .ref q_t_scores, .ref q_t_isIn, .ref q_t_order, .int u_9, .int u_10, .ref q_t_row, .ref q_t_listing, .int t_listingLength, .long t_hash])), (q_t_m, .inl (cy 0, 378, .inl t_m)), (q_t_counts, .inl (cy 0, 96, .inl u_11)), (q_t_scores, .inl (cy 0, 16, .inl u_12)), (q_t_isIn, .inl (cy 3, 16, .inl u_13)), (q_t_order, .inl (cy 0, 16, .inl u_14))]) (st' := [.int r_8, .int r_1]) (ce := 0) (sl := 0) 6 [6, 7, 8, 9, 10, 11] (by decide +kernel) (by decide +kernel) rfl rfl ⟨rfl, rfl⟩ ?_
  refine v_icmp_ne (tgt := 22) cx dX6_agree_15 (by decide) h (fun h => ?_) (fun h => ?_)
  · refine v_iconst (v := 0) cx dX6_agree_22 (by decide) ?_
    exact v_ireturn cx rfl dX6_agree_23 ⟨_, _, _, _, _, _, _, _, rfl, rfl, h⟩
  · refine v_iconst (v := 1) cx dX6_agree_18 (by decide) ?_
    refine v_goto (tgt := 23) cx dX6_agree_19 (by decide) ?_
    exact v_ireturn cx rfl dX6_agree_23 ⟨_, _, _, _, _, _, _, _, rfl, rfl, h⟩
abbrev rm_X6_undo : Room := { frames := 0, cells := 0, slots := 0, locals := 0 }
set_option maxHeartbeats 4000000 in
set_option maxRecDepth 100000 in
theorem w_X6_undo_37 {p : Program} {l : Launch} {e : Env} {s : State} {m : MethodId} {args : Array Value} {below : List Frame} {meth : Method} {c : Code} {Q9 : State → Prop} {mn : String} {Ts : List Cond} {D : va_G} {cy : Nat → ClassId} {g : gT} {A : Nat → Prop} (cx : vC p s m args meth c cX6_undo 2 (some .int) RX6 mn Ts D cy g A) (q_t q_t_m q_t_saved q_t_text q_t_read q_t_counts q_t_scores q_t_isIn q_t_order q_t_row q_t_listing : Nat) {t_savedCount : Int32} {t_textLength : Int32} {t_code : Int32} {t_at : Int32} {t_number : Int32} {t_ranked : Int32} {t_emptySide : Int32} {t_listingLength : Int32} {t_hash : Int64} {t_saved : Nat → Int32} {N : Nat} {K71 : Int32 → (Nat → Int32) → Prop} (hK71 : ∀ (x1 : Int32) (t_m : Nat → Int32), K71 x1 t_m → vV p l e rm_X6_undo s m args below meth c Q9 2 D A 0 0 [(q_t, .inr (6, [.ref q_t_m, .ref q_t_saved, .int t_savedCount, .ref q_t_text, .int t_textLength, .int t_code, .int t_at, .ref q_t_read, .int t_number, .ref q_t_counts, .ref q_t_scores, .ref q_t_isIn, .ref q_t_order, .int t_ranked, .int t_emptySide, .ref q_t_row, .ref q_t_listing, .int t_listingLength, .long t_hash])), (q_t_saved, .inl (cy 0, 1512, .inl t_saved)), (q_t_m, .inl (cy 0, 378, .inl t_m))] 71 [(0, .ref q_t), (1, .int x1)] []) : ∀ (n : Nat) (x1 : Int32) (t_m : Nat → Int32), p_X6_undo_37 N t_savedCount t_textLength t_code t_at t_number t_ranked t_emptySide t_listingLength t_hash t_saved K71 n x1 t_m → vV p l e rm_X6_undo s m args below meth c Q9 2 D A 0 0 [(q_t, .inr (6, [.ref q_t_m, .ref q_t_saved, .int t_savedCount, .ref q_t_text, .int t_textLength, .int t_code, .int t_at, .ref q_t_read, .int t_number, .ref q_t_counts, .ref q_t_scores, .ref q_t_isIn, .ref q_t_order, .int t_ranked, .int t_emptySide, .ref q_t_row, .ref q_t_listing, .int t_listingLength, .long t_hash])), (q_t_saved, .inl (cy 0, 1512, .inl t_saved)), (q_t_m, .inl (cy 0, 378, .inl t_m))] 37 [(0, .ref q_t), (1, .int x1)] [] := by
  intro n
  induction n with
  | zero => intro x1 t_m h; exact False.elim h
  | succ n ih =>
    intro x1 t_m h
    unfold p_X6_undo_37 at h
    refine v_iload_n cx dX6_undo_37 rfl 1 rfl ?_
    refine v_sipush (v := 378) cx dX6_undo_38 (by decide) ?_
    refine v_icmp_ge (tgt := 71) cx dX6_undo_41 (by decide) h (fun h => ?_) (fun h => ?_)
    · refine v_lv (lv' := [(0, .ref q_t), (1, .int x1)]) [0, 1] rfl ?_
      exact hK71 _ _ h
    · refine v_aload_n cx dX6_undo_44 rfl 0 rfl ?_
      refine g_X6_7 cx dX6_undo_45 0 rfl rfl ?_
      refine v_iload_n cx dX6_undo_48 rfl 1 rfl ?_
      refine v_aload_n cx dX6_undo_49 rfl 0 rfl ?_
      refine g_X6_13 cx dX6_undo_50 0 rfl rfl ?_
      refine v_sipush (v := 378) cx dX6_undo_53 (by decide) ?_
      refine v_aload_n cx dX6_undo_56 rfl 0 rfl ?_
      refine g_X6_48 cx dX6_undo_57 0 rfl rfl ?_
      refine v_imul cx dX6_undo_60 ?_
      refine v_iload_n cx dX6_undo_61 rfl 1 rfl ?_
      refine v_iadd cx dX6_undo_62 ?_
      refine v_iald cx dX6_undo_63 1 rfl h (fun h => ?_)
      refine v_iast (ws' := [(q_t, .inr (6, [.ref q_t_m, .ref q_t_saved, .int t_savedCount, .ref q_t_text, .int t_textLength, .int t_code, .int t_at, .ref q_t_read, .int t_number, .ref q_t_counts, .ref q_t_scores, .ref q_t_isIn, .ref q_t_order, .int t_ranked, .int t_emptySide, .ref q_t_row, .ref q_t_listing, .int t_listingLength, .long t_hash])), (q_t_saved, .inl (cy 0, 1512, .inl t_saved)), (q_t_m, .inl (cy 0, 378, .inl (upd t_m x1.toNatClampNeg (t_saved ((378 * t_savedCount) + x1).toNatClampNeg))))]) cx dX6_undo_64 2 rfl h rfl (fun h => ?_)
      refine v_iinc (v := x1 + 1) (k0 := 1) (lv' := [(1, .int (x1 + 1)), (0, .ref q_t)]) cx dX6_undo_65 rfl rfl (by decide) rfl ?_
      refine v_goto (tgt := 37) cx dX6_undo_68 (by decide) ?_
      refine v_lv (lv' := [(0, .ref q_t), (1, .int (x1 + 1))]) [1, 0] rfl ?_
      exact ih _ _ h
set_option maxHeartbeats 4000000 in
set_option maxRecDepth 100000 in
theorem c_X6_undo (l : Launch) (g : gT) (D : va_G) (cy : Nat → ClassId) (q_t q_t_m q_t_saved q_t_text q_t_read q_t_counts q_t_scores q_t_isIn q_t_order q_t_row q_t_listing : Nat) {t_savedCount : Int32} {t_textLength : Int32} {t_code : Int32} {t_at : Int32} {t_number : Int32} {t_ranked : Int32} {t_emptySide : Int32} {t_listingLength : Int32} {t_hash : Int64} {t_saved : Nat → Int32} {t_m : Nat → Int32} {N : Nat} {Q : Int32 → Int32 → Int32 → (Nat → Int32) → Prop} (h : p_X6_undo N t_savedCount t_textLength t_code t_at t_number t_ranked t_emptySide t_listingLength t_hash t_saved t_m Q) : UC l yX6_undo cX6_undo 2 (some .int) rm_X6_undo g D cy [.ref q_t] [(q_t, .inr (6, [.ref q_t_m, .ref q_t_saved, .int t_savedCount, .ref q_t_text, .int t_textLength, .int t_code, .int t_at, .ref q_t_read, .int t_number, .ref q_t_counts, .ref q_t_scores, .ref q_t_isIn, .ref q_t_order, .int t_ranked, .int t_emptySide, .ref q_t_row, .ref q_t_listing, .int t_listingLength, .long t_hash])), (q_t_saved, .inl (cy 0, 1512, .inl t_saved)), (q_t_m, .inl (cy 0, 378, .inl t_m))] (fun v w => ∃ (r : Int32) (t_savedCount' : Int32) (t_code' : Int32) (t_m' : Nat → Int32), v = some (.int r) ∧ w = [(q_t, .inr (6, [.ref q_t_m, .ref q_t_saved, .int t_savedCount', .ref q_t_text, .int t_textLength, .int t_code', .int t_at, .ref q_t_read, .int t_number, .ref q_t_counts, .ref q_t_scores, .ref q_t_isIn, .ref q_t_order, .int t_ranked, .int t_emptySide, .ref q_t_row, .ref q_t_listing, .int t_listingLength, .long t_hash])), (q_t_saved, .inl (cy 0, 1512, .inl t_saved)), (q_t_m, .inl (cy 0, 378, .inl t_m'))] ∧ Q r t_savedCount' t_code' t_m') := by
  refine UC_of (by decide +kernel) (Nat.le_of_ble_eq_true rfl) [(0, .ref q_t)] rfl (fun p e s m args below meth c A cx => ?_)
  unfold p_X6_undo at h
  refine v_aload_n cx dX6_undo_0 rfl 0 rfl ?_
  refine v_aload_n cx dX6_undo_1 rfl 0 rfl ?_
  refine g_X6_48 cx dX6_undo_2 0 rfl rfl ?_
  refine v_if_ne (tgt := 12) cx dX6_undo_5 (by decide) h (fun h => ?_) (fun h => ?_)
  · refine v_iconst (v := 0) cx dX6_undo_12 (by decide) ?_
    refine p_X6_45 (ws' := [(q_t, .inr (6, [.ref q_t_m, .ref q_t_saved, .int t_savedCount, .ref q_t_text, .int t_textLength, .int 0, .int t_at, .ref q_t_read, .int t_number, .ref q_t_counts, .ref q_t_scores, .ref q_t_isIn, .ref q_t_order, .int t_ranked, .int t_emptySide, .ref q_t_row, .ref q_t_listing, .int t_listingLength, .long t_hash])), (q_t_saved, .inl (cy 0, 1512, .inl t_saved)), (q_t_m, .inl (cy 0, 378, .inl t_m))]) cx dX6_undo_13 0 rfl rfl rfl (Nat.le_of_ble_eq_true rfl) rfl ?_
    refine v_aload_n cx dX6_undo_16 rfl 0 rfl ?_
    refine g_X6_45 cx dX6_undo_17 0 rfl rfl ?_
    refine v_if_eq (tgt := 25) (P1 := True) (P2 := False) cx dX6_undo_20 (by decide) (by decide) (fun _ => ?_) (fun z => z.elim)
    refine v_aload_n cx dX6_undo_25 rfl 0 rfl ?_
    refine v_dup cx dX6_undo_26 rfl ?_
    refine g_X6_48 cx dX6_undo_27 0 rfl rfl ?_
    refine v_iconst (v := 1) cx dX6_undo_30 (by decide) ?_
    refine v_isub cx dX6_undo_31 ?_
    refine p_X6_48 (ws' := [(q_t, .inr (6, [.ref q_t_m, .ref q_t_saved, .int (t_savedCount - 1), .ref q_t_text, .int t_textLength, .int 0, .int t_at, .ref q_t_read, .int t_number, .ref q_t_counts, .ref q_t_scores, .ref q_t_isIn, .ref q_t_order, .int t_ranked, .int t_emptySide, .ref q_t_row, .ref q_t_listing, .int t_listingLength, .long t_hash])), (q_t_saved, .inl (cy 0, 1512, .inl t_saved)), (q_t_m, .inl (cy 0, 378, .inl t_m))]) cx dX6_undo_32 0 rfl rfl rfl (Nat.le_of_ble_eq_true rfl) rfl ?_
    refine v_iconst (v := 0) cx dX6_undo_35 (by decide) ?_
    refine v_istore_n (lv' := [(1, .int 0), (0, .ref q_t)]) cx dX6_undo_36 rfl (by decide) rfl ?_
    refine v_lv (lv' := [(0, .ref q_t), (1, .int 0)]) [1, 0] rfl ?_
    refine w_X6_undo_37 cx q_t q_t_m q_t_saved q_t_text q_t_read q_t_counts q_t_scores q_t_isIn q_t_order q_t_row q_t_listing ?_ N _ _ h
    · intro x1_1 t_m_2 h
      refine v_aload_n cx dX6_undo_71 rfl 0 rfl ?_
      refine g_X6_48 cx dX6_undo_72 0 rfl rfl ?_
      exact v_ireturn cx rfl dX6_undo_75 ⟨_, _, _, _, rfl, rfl, h⟩
  · refine v_iconst (v := 1) cx dX6_undo_8 (by decide) ?_
    refine v_goto (tgt := 13) cx dX6_undo_9 (by decide) ?_
    refine p_X6_45 (ws' := [(q_t, .inr (6, [.ref q_t_m, .ref q_t_saved, .int t_savedCount, .ref q_t_text, .int t_textLength, .int 1, .int t_at, .ref q_t_read, .int t_number, .ref q_t_counts, .ref q_t_scores, .ref q_t_isIn, .ref q_t_order, .int t_ranked, .int t_emptySide, .ref q_t_row, .ref q_t_listing, .int t_listingLength, .long t_hash])), (q_t_saved, .inl (cy 0, 1512, .inl t_saved)), (q_t_m, .inl (cy 0, 378, .inl t_m))]) cx dX6_undo_13 0 rfl rfl rfl (Nat.le_of_ble_eq_true rfl) rfl ?_
    refine v_aload_n cx dX6_undo_16 rfl 0 rfl ?_
    refine g_X6_45 cx dX6_undo_17 0 rfl rfl ?_
    refine v_if_eq (tgt := 25) (P1 := False) (P2 := True) cx dX6_undo_20 (by decide) (by decide) (fun z => z.elim) (fun _ => ?_)
    refine v_iconst (v := 0) cx dX6_undo_23 (by decide) ?_
    exact v_ireturn cx rfl dX6_undo_24 ⟨_, _, _, _, rfl, rfl, h⟩
abbrev rm_X6_mix : Room := { frames := 0, cells := 0, slots := 0, locals := 0 }
set_option maxHeartbeats 4000000 in
set_option maxRecDepth 100000 in
theorem c_X6_mix (l : Launch) (g : gT) (D : va_G) (cy : Nat → ClassId) (q_t q_t_m q_t_saved q_t_text q_t_read q_t_counts q_t_scores q_t_isIn q_t_order q_t_row q_t_listing : Nat) {t_savedCount : Int32} {t_textLength : Int32} {t_code : Int32} {t_at : Int32} {t_number : Int32} {t_ranked : Int32} {t_emptySide : Int32} {t_listingLength : Int32} {t_hash : Int64} {x1 : Int64} {N : Nat} {Q : Int64 → Prop} (h : p_X6_mix N t_savedCount t_textLength t_code t_at t_number t_ranked t_emptySide t_listingLength t_hash x1 Q) : UC l yX6_mix cX6_mix 3 none rm_X6_mix g D cy [.ref q_t, .long x1] [(q_t, .inr (6, [.ref q_t_m, .ref q_t_saved, .int t_savedCount, .ref q_t_text, .int t_textLength, .int t_code, .int t_at, .ref q_t_read, .int t_number, .ref q_t_counts, .ref q_t_scores, .ref q_t_isIn, .ref q_t_order, .int t_ranked, .int t_emptySide, .ref q_t_row, .ref q_t_listing, .int t_listingLength, .long t_hash]))] (fun v w => ∃ (t_hash' : Int64), v = none ∧ w = [(q_t, .inr (6, [.ref q_t_m, .ref q_t_saved, .int t_savedCount, .ref q_t_text, .int t_textLength, .int t_code, .int t_at, .ref q_t_read, .int t_number, .ref q_t_counts, .ref q_t_scores, .ref q_t_isIn, .ref q_t_order, .int t_ranked, .int t_emptySide, .ref q_t_row, .ref q_t_listing, .int t_listingLength, .long t_hash']))] ∧ Q t_hash') := by
  refine UC_of (by decide +kernel) (Nat.le_of_ble_eq_true rfl) [(0, .ref q_t), (1, .long x1)] rfl (fun p e s m args below meth c A cx => ?_)
  unfold p_X6_mix at h
  refine v_aload_n cx dX6_mix_0 rfl 0 rfl ?_
  refine v_ldc2 cx dX6_mix_1 wKL_X6_236 ?_
  refine v_aload_n cx dX6_mix_4 rfl 0 rfl ?_
  refine g_X6_238 cx dX6_mix_5 0 rfl rfl ?_
  refine v_lmul cx dX6_mix_8 ?_
  refine v_lload_n cx dX6_mix_9 rfl 1 rfl ?_
  refine v_ladd cx dX6_mix_10 ?_
  refine p_X6_238 (ws' := [(q_t, .inr (6, [.ref q_t_m, .ref q_t_saved, .int t_savedCount, .ref q_t_text, .int t_textLength, .int t_code, .int t_at, .ref q_t_read, .int t_number, .ref q_t_counts, .ref q_t_scores, .ref q_t_isIn, .ref q_t_order, .int t_ranked, .int t_emptySide, .ref q_t_row, .ref q_t_listing, .int t_listingLength, .long ((31 * t_hash) + x1)]))]) cx dX6_mix_11 0 rfl rfl rfl (Nat.le_of_ble_eq_true rfl) rfl ?_
  exact v_return cx dX6_mix_14 ⟨_, rfl, rfl, h⟩
abbrev rm_X6_mixThings : Room := { frames := 4, cells := 0, slots := 0, locals := 100 }
set_option maxHeartbeats 4000000 in
set_option maxRecDepth 100000 in
theorem w_X6_mixThings_14 {p : Program} {l : Launch} {e : Env} {s : State} {m : MethodId} {args : Array Value} {below : List Frame} {meth : Method} {c : Code} {Q9 : State → Prop} {mn : String} {Ts : List Cond} {D : va_G} {cy : Nat → ClassId} {g : gT} {A : Nat → Prop} (cx : vC p s m args meth c cX6_mixThings 3 none RX6 mn Ts D cy g A) (q_t q_t_m q_t_saved q_t_text q_t_read q_t_counts q_t_scores q_t_isIn q_t_order q_t_row q_t_listing : Nat) {x1 : Int32} {t_savedCount : Int32} {t_textLength : Int32} {t_code : Int32} {t_at : Int32} {t_number : Int32} {t_ranked : Int32} {t_emptySide : Int32} {t_listingLength : Int32} {t_m : Nat → Int32} {t_scores : Nat → Int32} {t_counts : Nat → Int32} {t_order : Nat → Int32} {t_row : Nat → Int32} {N : Nat} {K37 : Int32 → Int64 → Prop} (hK37 : ∀ (x2 : Int32) (t_hash : Int64), K37 x2 t_hash → vV p l e rm_X6_mixThings s m args below meth c Q9 3 D A 0 0 [(q_t, .inr (6, [.ref q_t_m, .ref q_t_saved, .int t_savedCount, .ref q_t_text, .int t_textLength, .int t_code, .int t_at, .ref q_t_read, .int t_number, .ref q_t_counts, .ref q_t_scores, .ref q_t_isIn, .ref q_t_order, .int t_ranked, .int t_emptySide, .ref q_t_row, .ref q_t_listing, .int t_listingLength, .long t_hash])), (q_t_m, .inl (cy 0, 378, .inl t_m)), (q_t_scores, .inl (cy 0, 16, .inl t_scores)), (q_t_counts, .inl (cy 0, 96, .inl t_counts)), (q_t_order, .inl (cy 0, 16, .inl t_order)), (q_t_row, .inl (cy 0, 16, .inl t_row))] 37 [(0, .ref q_t), (1, .int x1), (2, .int x2)] []) : ∀ (n : Nat) (x2 : Int32) (t_hash : Int64), p_X6_mixThings_14 N x1 t_savedCount t_textLength t_code t_at t_number t_ranked t_emptySide t_listingLength t_m t_scores t_counts t_order t_row K37 n x2 t_hash → vV p l e rm_X6_mixThings s m args below meth c Q9 3 D A 0 0 [(q_t, .inr (6, [.ref q_t_m, .ref q_t_saved, .int t_savedCount, .ref q_t_text, .int t_textLength, .int t_code, .int t_at, .ref q_t_read, .int t_number, .ref q_t_counts, .ref q_t_scores, .ref q_t_isIn, .ref q_t_order, .int t_ranked, .int t_emptySide, .ref q_t_row, .ref q_t_listing, .int t_listingLength, .long t_hash])), (q_t_m, .inl (cy 0, 378, .inl t_m)), (q_t_scores, .inl (cy 0, 16, .inl t_scores)), (q_t_counts, .inl (cy 0, 96, .inl t_counts)), (q_t_order, .inl (cy 0, 16, .inl t_order)), (q_t_row, .inl (cy 0, 16, .inl t_row))] 14 [(0, .ref q_t), (1, .int x1), (2, .int x2)] [] := by
  intro n
  induction n with
  | zero => intro x2 t_hash h; exact False.elim h
  | succ n ih =>
    intro x2 t_hash h
    unfold p_X6_mixThings_14 at h
    refine v_iload_n cx dX6_mixThings_14 rfl 2 rfl ?_
    refine v_bipush (v := 7) cx dX6_mixThings_15 (by decide) ?_
    refine v_icmp_ge (tgt := 37) cx dX6_mixThings_17 (by decide) h (fun h => ?_) (fun h => ?_)
    · refine v_lv (lv' := [(0, .ref q_t), (1, .int x1), (2, .int x2)]) [0, 1, 2] rfl ?_
      exact hK37 _ _ h
    · refine v_aload_n cx dX6_mixThings_20 rfl 0 rfl ?_
      refine v_aload_n cx dX6_mixThings_21 rfl 0 rfl ?_
      refine v_iload_n cx dX6_mixThings_22 rfl 1 rfl ?_
      refine v_iload_n cx dX6_mixThings_23 rfl 2 rfl ?_
      refine v_callVpi (As := [.int x1, .int x2]) cx (c_X6_variantOf l g D cy q_t q_t_m q_t_saved q_t_text q_t_read q_t_counts q_t_scores q_t_isIn q_t_order q_t_row q_t_listing h) k_X6_212 (by decide) ⟨rfl, rfl⟩ (by decide) rfl rfl (Nat.le_of_ble_eq_true rfl) dX6_mixThings_24 [0, 1, 2, 3, 4, 5] [] (by decide) (vj_all 6 rfl (by decide +kernel)) rfl rfl rfl (q0 := 0) rfl rfl (fun r_1 h => ?_)
      refine v_i2l cx dX6_mixThings_27 ?_
      refine v_callV (As := [.long r_1.toInt64]) cx (c_X6_mix l g D cy q_t q_t_m q_t_saved q_t_text q_t_read q_t_counts q_t_scores q_t_isIn q_t_order q_t_row q_t_listing h) k_X6_242 (by decide) (by decide) rfl rfl (Nat.le_of_ble_eq_true rfl) dX6_mixThings_28 [0] [1, 2, 3, 4, 5] (by decide) rfl rfl rfl (q0 := 0) rfl rfl (fun v9 w9 hp => ?_)
      obtain ⟨u_2, rfl, rfl, h⟩ := hp
      refine v_afterJ (ws' := [(q_t, .inr (6, [.ref q_t_m, .ref q_t_saved, .int t_savedCount, .ref q_t_text, .int t_textLength, .int t_code, .int t_at, .ref q_t_read, .int t_number, .ref q_t_counts, .ref q_t_scores, .ref q_t_isIn, .ref q_t_order, .int t_ranked, .int t_emptySide, .ref q_t_row, .ref q_t_listing, .int t_listingLength, .long u_2])), (q_t_m, .inl (cy 0, 378, .inl t_m)), (q_t_scores, .inl (cy 0, 16, .inl t_scores)), (q_t_counts, .inl (cy 0, 96, .inl t_counts)), (q_t_order, .inl (cy 0, 16, .inl t_order)), (q_t_row, .inl (cy 0, 16, .inl t_row))]) (st' := []) (ce := 0) (sl := 0) 6 [6, 1, 2, 3, 4, 5] (by decide +kernel) (by decide +kernel) rfl rfl ⟨rfl, rfl⟩ ?_
      refine v_iinc (v := x2 + 1) (k0 := 2) (lv' := [(2, .int (x2 + 1)), (0, .ref q_t), (1, .int x1)]) cx dX6_mixThings_31 rfl rfl (by decide) rfl ?_
      refine v_goto (tgt := 14) cx dX6_mixThings_34 (by decide) ?_
      refine v_lv (lv' := [(0, .ref q_t), (1, .int x1), (2, .int (x2 + 1))]) [1, 2, 0] rfl ?_
      exact ih _ _ h
set_option maxHeartbeats 4000000 in
set_option maxRecDepth 100000 in
theorem w_X6_mixThings_39 {p : Program} {l : Launch} {e : Env} {s : State} {m : MethodId} {args : Array Value} {below : List Frame} {meth : Method} {c : Code} {Q9 : State → Prop} {mn : String} {Ts : List Cond} {D : va_G} {cy : Nat → ClassId} {g : gT} {A : Nat → Prop} (cx : vC p s m args meth c cX6_mixThings 3 none RX6 mn Ts D cy g A) (q_t q_t_m q_t_saved q_t_text q_t_read q_t_counts q_t_scores q_t_isIn q_t_order q_t_row q_t_listing : Nat) {x1 : Int32} {t_savedCount : Int32} {t_textLength : Int32} {t_code : Int32} {t_at : Int32} {t_number : Int32} {t_ranked : Int32} {t_emptySide : Int32} {t_listingLength : Int32} {t_m : Nat → Int32} {t_scores : Nat → Int32} {t_counts : Nat → Int32} {t_order : Nat → Int32} {t_row : Nat → Int32} {N : Nat} {K62 : Int32 → Int64 → Prop} (hK62 : ∀ (x2 : Int32) (t_hash : Int64), K62 x2 t_hash → vV p l e rm_X6_mixThings s m args below meth c Q9 3 D A 0 0 [(q_t, .inr (6, [.ref q_t_m, .ref q_t_saved, .int t_savedCount, .ref q_t_text, .int t_textLength, .int t_code, .int t_at, .ref q_t_read, .int t_number, .ref q_t_counts, .ref q_t_scores, .ref q_t_isIn, .ref q_t_order, .int t_ranked, .int t_emptySide, .ref q_t_row, .ref q_t_listing, .int t_listingLength, .long t_hash])), (q_t_m, .inl (cy 0, 378, .inl t_m)), (q_t_scores, .inl (cy 0, 16, .inl t_scores)), (q_t_counts, .inl (cy 0, 96, .inl t_counts)), (q_t_order, .inl (cy 0, 16, .inl t_order)), (q_t_row, .inl (cy 0, 16, .inl t_row))] 62 [(0, .ref q_t), (1, .int x1), (2, .int x2)] []) : ∀ (n : Nat) (x2 : Int32) (t_hash : Int64), p_X6_mixThings_39 N x1 t_savedCount t_textLength t_code t_at t_number t_ranked t_emptySide t_listingLength t_m t_scores t_counts t_order t_row K62 n x2 t_hash → vV p l e rm_X6_mixThings s m args below meth c Q9 3 D A 0 0 [(q_t, .inr (6, [.ref q_t_m, .ref q_t_saved, .int t_savedCount, .ref q_t_text, .int t_textLength, .int t_code, .int t_at, .ref q_t_read, .int t_number, .ref q_t_counts, .ref q_t_scores, .ref q_t_isIn, .ref q_t_order, .int t_ranked, .int t_emptySide, .ref q_t_row, .ref q_t_listing, .int t_listingLength, .long t_hash])), (q_t_m, .inl (cy 0, 378, .inl t_m)), (q_t_scores, .inl (cy 0, 16, .inl t_scores)), (q_t_counts, .inl (cy 0, 96, .inl t_counts)), (q_t_order, .inl (cy 0, 16, .inl t_order)), (q_t_row, .inl (cy 0, 16, .inl t_row))] 39 [(0, .ref q_t), (1, .int x1), (2, .int x2)] [] := by
  intro n
  induction n with
  | zero => intro x2 t_hash h; exact False.elim h
  | succ n ih =>
    intro x2 t_hash h
    unfold p_X6_mixThings_39 at h
    refine v_iload_n cx dX6_mixThings_39 rfl 2 rfl ?_
    refine v_bipush (v := 6) cx dX6_mixThings_40 (by decide) ?_
    refine v_icmp_ge (tgt := 62) cx dX6_mixThings_42 (by decide) h (fun h => ?_) (fun h => ?_)
    · refine v_lv (lv' := [(0, .ref q_t), (1, .int x1), (2, .int x2)]) [0, 1, 2] rfl ?_
      exact hK62 _ _ h
    · refine v_aload_n cx dX6_mixThings_45 rfl 0 rfl ?_
      refine v_aload_n cx dX6_mixThings_46 rfl 0 rfl ?_
      refine v_iload_n cx dX6_mixThings_47 rfl 2 rfl ?_
      refine v_iload_n cx dX6_mixThings_48 rfl 1 rfl ?_
      refine v_callVpi (As := [.int x2, .int x1]) cx (c_X6_weightIn l g D cy q_t q_t_m q_t_saved q_t_text q_t_read q_t_counts q_t_scores q_t_isIn q_t_order q_t_row q_t_listing h) k_X6_155 (by decide) ⟨rfl, rfl⟩ (by decide) rfl rfl (Nat.le_of_ble_eq_true rfl) dX6_mixThings_49 [0, 3, 1] [2, 4, 5] (by decide) (vj_all 6 rfl (by decide +kernel)) rfl rfl rfl (q0 := 0) rfl rfl (fun r_5 h => ?_)
      refine v_i2l cx dX6_mixThings_52 ?_
      refine v_callV (As := [.long r_5.toInt64]) cx (c_X6_mix l g D cy q_t q_t_m q_t_saved q_t_text q_t_read q_t_counts q_t_scores q_t_isIn q_t_order q_t_row q_t_listing h) k_X6_242 (by decide) (by decide) rfl rfl (Nat.le_of_ble_eq_true rfl) dX6_mixThings_53 [0] [1, 2, 3, 4, 5] (by decide) rfl rfl rfl (q0 := 0) rfl rfl (fun v9 w9 hp => ?_)
      obtain ⟨u_6, rfl, rfl, h⟩ := hp
      refine v_afterJ (ws' := [(q_t, .inr (6, [.ref q_t_m, .ref q_t_saved, .int t_savedCount, .ref q_t_text, .int t_textLength, .int t_code, .int t_at, .ref q_t_read, .int t_number, .ref q_t_counts, .ref q_t_scores, .ref q_t_isIn, .ref q_t_order, .int t_ranked, .int t_emptySide, .ref q_t_row, .ref q_t_listing, .int t_listingLength, .long u_6])), (q_t_m, .inl (cy 0, 378, .inl t_m)), (q_t_scores, .inl (cy 0, 16, .inl t_scores)), (q_t_counts, .inl (cy 0, 96, .inl t_counts)), (q_t_order, .inl (cy 0, 16, .inl t_order)), (q_t_row, .inl (cy 0, 16, .inl t_row))]) (st' := []) (ce := 0) (sl := 0) 6 [6, 1, 2, 3, 4, 5] (by decide +kernel) (by decide +kernel) rfl rfl ⟨rfl, rfl⟩ ?_
      refine v_iinc (v := x2 + 1) (k0 := 2) (lv' := [(2, .int (x2 + 1)), (0, .ref q_t), (1, .int x1)]) cx dX6_mixThings_56 rfl rfl (by decide) rfl ?_
      refine v_goto (tgt := 39) cx dX6_mixThings_59 (by decide) ?_
      refine v_lv (lv' := [(0, .ref q_t), (1, .int x1), (2, .int (x2 + 1))]) [1, 2, 0] rfl ?_
      exact ih _ _ h
set_option maxHeartbeats 4000000 in
set_option maxRecDepth 100000 in
theorem w_X6_mixThings_2 {p : Program} {l : Launch} {e : Env} {s : State} {m : MethodId} {args : Array Value} {below : List Frame} {meth : Method} {c : Code} {Q9 : State → Prop} {mn : String} {Ts : List Cond} {D : va_G} {cy : Nat → ClassId} {g : gT} {A : Nat → Prop} (cx : vC p s m args meth c cX6_mixThings 3 none RX6 mn Ts D cy g A) (q_t q_t_m q_t_saved q_t_text q_t_read q_t_counts q_t_scores q_t_isIn q_t_order q_t_row q_t_listing : Nat) {t_savedCount : Int32} {t_textLength : Int32} {t_code : Int32} {t_at : Int32} {t_number : Int32} {t_ranked : Int32} {t_emptySide : Int32} {t_listingLength : Int32} {t_m : Nat → Int32} {t_scores : Nat → Int32} {t_counts : Nat → Int32} {t_order : Nat → Int32} {t_row : Nat → Int32} {N : Nat} {K68 : Int32 → Int64 → Prop} (hK68 : ∀ (x1 : Int32) (t_hash : Int64), K68 x1 t_hash → vV p l e rm_X6_mixThings s m args below meth c Q9 3 D A 0 0 [(q_t, .inr (6, [.ref q_t_m, .ref q_t_saved, .int t_savedCount, .ref q_t_text, .int t_textLength, .int t_code, .int t_at, .ref q_t_read, .int t_number, .ref q_t_counts, .ref q_t_scores, .ref q_t_isIn, .ref q_t_order, .int t_ranked, .int t_emptySide, .ref q_t_row, .ref q_t_listing, .int t_listingLength, .long t_hash])), (q_t_m, .inl (cy 0, 378, .inl t_m)), (q_t_scores, .inl (cy 0, 16, .inl t_scores)), (q_t_counts, .inl (cy 0, 96, .inl t_counts)), (q_t_order, .inl (cy 0, 16, .inl t_order)), (q_t_row, .inl (cy 0, 16, .inl t_row))] 68 [(0, .ref q_t), (1, .int x1)] []) : ∀ (n : Nat) (x1 : Int32) (t_hash : Int64), p_X6_mixThings_2 N t_savedCount t_textLength t_code t_at t_number t_ranked t_emptySide t_listingLength t_m t_scores t_counts t_order t_row K68 n x1 t_hash → vV p l e rm_X6_mixThings s m args below meth c Q9 3 D A 0 0 [(q_t, .inr (6, [.ref q_t_m, .ref q_t_saved, .int t_savedCount, .ref q_t_text, .int t_textLength, .int t_code, .int t_at, .ref q_t_read, .int t_number, .ref q_t_counts, .ref q_t_scores, .ref q_t_isIn, .ref q_t_order, .int t_ranked, .int t_emptySide, .ref q_t_row, .ref q_t_listing, .int t_listingLength, .long t_hash])), (q_t_m, .inl (cy 0, 378, .inl t_m)), (q_t_scores, .inl (cy 0, 16, .inl t_scores)), (q_t_counts, .inl (cy 0, 96, .inl t_counts)), (q_t_order, .inl (cy 0, 16, .inl t_order)), (q_t_row, .inl (cy 0, 16, .inl t_row))] 2 [(0, .ref q_t), (1, .int x1)] [] := by
  intro n
  induction n with
  | zero => intro x1 t_hash h; exact False.elim h
  | succ n ih =>
    intro x1 t_hash h
    unfold p_X6_mixThings_2 at h
    refine v_iload_n cx dX6_mixThings_2 rfl 1 rfl ?_
    refine v_aload_n cx dX6_mixThings_3 rfl 0 rfl ?_
    refine g_X6_7 cx dX6_mixThings_4 0 rfl rfl ?_
    refine v_iconst (v := 0) cx dX6_mixThings_7 (by decide) ?_
    refine v_iald cx dX6_mixThings_8 1 rfl ⟨by unfold vp_in; decide, h⟩ (fun h => ?_)
    refine v_icmp_ge (tgt := 68) cx dX6_mixThings_9 (by decide) h (fun h => ?_) (fun h => ?_)
    · refine v_lv (lv' := [(0, .ref q_t), (1, .int x1)]) [0, 1] rfl ?_
      exact hK68 _ _ h
    · refine v_iconst (v := 0) cx dX6_mixThings_12 (by decide) ?_
      refine v_istore_n (lv' := [(2, .int 0), (0, .ref q_t), (1, .int x1)]) cx dX6_mixThings_13 rfl (by decide) rfl ?_
      refine v_lv (lv' := [(0, .ref q_t), (1, .int x1), (2, .int 0)]) [1, 2, 0] rfl ?_
      refine w_X6_mixThings_14 cx q_t q_t_m q_t_saved q_t_text q_t_read q_t_counts q_t_scores q_t_isIn q_t_order q_t_row q_t_listing ?_ N _ _ h
      · intro x2_3 t_hash_4 h
        refine v_iconst (v := 0) cx dX6_mixThings_37 (by decide) ?_
        refine v_istore_n (lv' := [(2, .int 0), (0, .ref q_t), (1, .int x1)]) cx dX6_mixThings_38 rfl (by decide) rfl ?_
        refine v_lv (lv' := [(0, .ref q_t), (1, .int x1), (2, .int 0)]) [1, 2, 0] rfl ?_
        refine w_X6_mixThings_39 cx q_t q_t_m q_t_saved q_t_text q_t_read q_t_counts q_t_scores q_t_isIn q_t_order q_t_row q_t_listing ?_ N _ _ h
        · intro x2_7 t_hash_8 h
          refine v_iinc (v := x1 + 1) (k0 := 1) (lv' := [(1, .int (x1 + 1)), (0, .ref q_t), (2, .int x2_7)]) cx dX6_mixThings_62 rfl rfl (by decide) rfl ?_
          refine v_goto (tgt := 2) cx dX6_mixThings_65 (by decide) ?_
          refine v_lv (lv' := [(0, .ref q_t), (1, .int (x1 + 1))]) [1, 0] rfl ?_
          exact ih _ _ h
set_option maxHeartbeats 4000000 in
set_option maxRecDepth 100000 in
theorem w_X6_mixThings_78 {p : Program} {l : Launch} {e : Env} {s : State} {m : MethodId} {args : Array Value} {below : List Frame} {meth : Method} {c : Code} {Q9 : State → Prop} {mn : String} {Ts : List Cond} {D : va_G} {cy : Nat → ClassId} {g : gT} {A : Nat → Prop} (cx : vC p s m args meth c cX6_mixThings 3 none RX6 mn Ts D cy g A) (q_t q_t_m q_t_saved q_t_text q_t_read q_t_counts q_t_scores q_t_isIn q_t_order q_t_row q_t_listing : Nat) {x1 : Int32} {t_savedCount : Int32} {t_textLength : Int32} {t_code : Int32} {t_at : Int32} {t_number : Int32} {t_ranked : Int32} {t_emptySide : Int32} {t_listingLength : Int32} {t_m : Nat → Int32} {t_scores : Nat → Int32} {t_counts : Nat → Int32} {t_order : Nat → Int32} {t_row : Nat → Int32} {N : Nat} {K114 : Int32 → Int64 → Prop} (hK114 : ∀ (x2 : Int32) (t_hash : Int64), K114 x2 t_hash → vV p l e rm_X6_mixThings s m args below meth c Q9 3 D A 0 0 [(q_t, .inr (6, [.ref q_t_m, .ref q_t_saved, .int t_savedCount, .ref q_t_text, .int t_textLength, .int t_code, .int t_at, .ref q_t_read, .int t_number, .ref q_t_counts, .ref q_t_scores, .ref q_t_isIn, .ref q_t_order, .int t_ranked, .int t_emptySide, .ref q_t_row, .ref q_t_listing, .int t_listingLength, .long t_hash])), (q_t_m, .inl (cy 0, 378, .inl t_m)), (q_t_scores, .inl (cy 0, 16, .inl t_scores)), (q_t_counts, .inl (cy 0, 96, .inl t_counts)), (q_t_order, .inl (cy 0, 16, .inl t_order)), (q_t_row, .inl (cy 0, 16, .inl t_row))] 114 [(0, .ref q_t), (1, .int x1), (2, .int x2)] []) : ∀ (n : Nat) (x2 : Int32) (t_hash : Int64), p_X6_mixThings_78 N x1 t_savedCount t_textLength t_code t_at t_number t_ranked t_emptySide t_listingLength t_m t_scores t_counts t_order t_row K114 n x2 t_hash → vV p l e rm_X6_mixThings s m args below meth c Q9 3 D A 0 0 [(q_t, .inr (6, [.ref q_t_m, .ref q_t_saved, .int t_savedCount, .ref q_t_text, .int t_textLength, .int t_code, .int t_at, .ref q_t_read, .int t_number, .ref q_t_counts, .ref q_t_scores, .ref q_t_isIn, .ref q_t_order, .int t_ranked, .int t_emptySide, .ref q_t_row, .ref q_t_listing, .int t_listingLength, .long t_hash])), (q_t_m, .inl (cy 0, 378, .inl t_m)), (q_t_scores, .inl (cy 0, 16, .inl t_scores)), (q_t_counts, .inl (cy 0, 96, .inl t_counts)), (q_t_order, .inl (cy 0, 16, .inl t_order)), (q_t_row, .inl (cy 0, 16, .inl t_row))] 78 [(0, .ref q_t), (1, .int x1), (2, .int x2)] [] := by
  intro n
  induction n with
  | zero => intro x2 t_hash h; exact False.elim h
  | succ n ih =>
    intro x2 t_hash h
    unfold p_X6_mixThings_78 at h
    refine v_iload_n cx dX6_mixThings_78 rfl 2 rfl ?_
    refine v_iconst (v := 4) cx dX6_mixThings_79 (by decide) ?_
    refine v_aload_n cx dX6_mixThings_80 rfl 0 rfl ?_
    refine g_X6_7 cx dX6_mixThings_81 0 rfl rfl ?_
    refine v_iconst (v := 4) cx dX6_mixThings_84 (by decide) ?_
    refine v_iload_n cx dX6_mixThings_85 rfl 1 rfl ?_
    refine v_iadd cx dX6_mixThings_86 ?_
    refine v_iald cx dX6_mixThings_87 1 rfl h (fun h => ?_)
    refine v_imul cx dX6_mixThings_88 ?_
    refine v_icmp_ge (tgt := 114) cx dX6_mixThings_89 (by decide) h (fun h => ?_) (fun h => ?_)
    · refine v_lv (lv' := [(0, .ref q_t), (1, .int x1), (2, .int x2)]) [0, 1, 2] rfl ?_
      exact hK114 _ _ h
    · refine v_aload_n cx dX6_mixThings_92 rfl 0 rfl ?_
      refine v_aload_n cx dX6_mixThings_93 rfl 0 rfl ?_
      refine v_iload_n cx dX6_mixThings_94 rfl 1 rfl ?_
      refine v_iload_n cx dX6_mixThings_95 rfl 2 rfl ?_
      refine v_iconst (v := 4) cx dX6_mixThings_96 (by decide) ?_
      refine v_idiv cx dX6_mixThings_97 (by decide) ?_
      refine v_iload_n cx dX6_mixThings_98 rfl 2 rfl ?_
      refine v_iconst (v := 4) cx dX6_mixThings_99 (by decide) ?_
      refine v_irem cx dX6_mixThings_100 (by decide) ?_
      refine v_callVpi (As := [.int x1, .int (x2 / 4), .int (x2 - x2 / 4 * 4)]) cx (c_X6_entryOf l g D cy q_t q_t_m q_t_saved q_t_text q_t_read q_t_counts q_t_scores q_t_isIn q_t_order q_t_row q_t_listing h) k_X6_218 (by decide) ⟨rfl, rfl⟩ (by decide) rfl rfl (Nat.le_of_ble_eq_true rfl) dX6_mixThings_101 [0, 1] [2, 3, 4, 5] (by decide) (vj_all 6 rfl (by decide +kernel)) rfl rfl rfl (q0 := 0) rfl rfl (fun r_11 h => ?_)
      refine v_i2l cx dX6_mixThings_104 ?_
      refine v_callV (As := [.long r_11.toInt64]) cx (c_X6_mix l g D cy q_t q_t_m q_t_saved q_t_text q_t_read q_t_counts q_t_scores q_t_isIn q_t_order q_t_row q_t_listing h) k_X6_242 (by decide) (by decide) rfl rfl (Nat.le_of_ble_eq_true rfl) dX6_mixThings_105 [0] [1, 2, 3, 4, 5] (by decide) rfl rfl rfl (q0 := 0) rfl rfl (fun v9 w9 hp => ?_)
      obtain ⟨u_12, rfl, rfl, h⟩ := hp
      refine v_afterJ (ws' := [(q_t, .inr (6, [.ref q_t_m, .ref q_t_saved, .int t_savedCount, .ref q_t_text, .int t_textLength, .int t_code, .int t_at, .ref q_t_read, .int t_number, .ref q_t_counts, .ref q_t_scores, .ref q_t_isIn, .ref q_t_order, .int t_ranked, .int t_emptySide, .ref q_t_row, .ref q_t_listing, .int t_listingLength, .long u_12])), (q_t_m, .inl (cy 0, 378, .inl t_m)), (q_t_scores, .inl (cy 0, 16, .inl t_scores)), (q_t_counts, .inl (cy 0, 96, .inl t_counts)), (q_t_order, .inl (cy 0, 16, .inl t_order)), (q_t_row, .inl (cy 0, 16, .inl t_row))]) (st' := []) (ce := 0) (sl := 0) 6 [6, 1, 2, 3, 4, 5] (by decide +kernel) (by decide +kernel) rfl rfl ⟨rfl, rfl⟩ ?_
      refine v_iinc (v := x2 + 1) (k0 := 2) (lv' := [(2, .int (x2 + 1)), (0, .ref q_t), (1, .int x1)]) cx dX6_mixThings_108 rfl rfl (by decide) rfl ?_
      refine v_goto (tgt := 78) cx dX6_mixThings_111 (by decide) ?_
      refine v_lv (lv' := [(0, .ref q_t), (1, .int x1), (2, .int (x2 + 1))]) [1, 2, 0] rfl ?_
      exact ih _ _ h
set_option maxHeartbeats 4000000 in
set_option maxRecDepth 100000 in
theorem w_X6_mixThings_70 {p : Program} {l : Launch} {e : Env} {s : State} {m : MethodId} {args : Array Value} {below : List Frame} {meth : Method} {c : Code} {Q9 : State → Prop} {mn : String} {Ts : List Cond} {D : va_G} {cy : Nat → ClassId} {g : gT} {A : Nat → Prop} (cx : vC p s m args meth c cX6_mixThings 3 none RX6 mn Ts D cy g A) (q_t q_t_m q_t_saved q_t_text q_t_read q_t_counts q_t_scores q_t_isIn q_t_order q_t_row q_t_listing : Nat) {t_savedCount : Int32} {t_textLength : Int32} {t_code : Int32} {t_at : Int32} {t_number : Int32} {t_ranked : Int32} {t_emptySide : Int32} {t_listingLength : Int32} {t_m : Nat → Int32} {t_scores : Nat → Int32} {t_counts : Nat → Int32} {t_order : Nat → Int32} {t_row : Nat → Int32} {N : Nat} {K120 : Int32 → Int64 → Prop} (hK120 : ∀ (x1 : Int32) (t_hash : Int64), K120 x1 t_hash → vV p l e rm_X6_mixThings s m args below meth c Q9 3 D A 0 0 [(q_t, .inr (6, [.ref q_t_m, .ref q_t_saved, .int t_savedCount, .ref q_t_text, .int t_textLength, .int t_code, .int t_at, .ref q_t_read, .int t_number, .ref q_t_counts, .ref q_t_scores, .ref q_t_isIn, .ref q_t_order, .int t_ranked, .int t_emptySide, .ref q_t_row, .ref q_t_listing, .int t_listingLength, .long t_hash])), (q_t_m, .inl (cy 0, 378, .inl t_m)), (q_t_scores, .inl (cy 0, 16, .inl t_scores)), (q_t_counts, .inl (cy 0, 96, .inl t_counts)), (q_t_order, .inl (cy 0, 16, .inl t_order)), (q_t_row, .inl (cy 0, 16, .inl t_row))] 120 [(0, .ref q_t), (1, .int x1)] []) : ∀ (n : Nat) (x1 : Int32) (t_hash : Int64), p_X6_mixThings_70 N t_savedCount t_textLength t_code t_at t_number t_ranked t_emptySide t_listingLength t_m t_scores t_counts t_order t_row K120 n x1 t_hash → vV p l e rm_X6_mixThings s m args below meth c Q9 3 D A 0 0 [(q_t, .inr (6, [.ref q_t_m, .ref q_t_saved, .int t_savedCount, .ref q_t_text, .int t_textLength, .int t_code, .int t_at, .ref q_t_read, .int t_number, .ref q_t_counts, .ref q_t_scores, .ref q_t_isIn, .ref q_t_order, .int t_ranked, .int t_emptySide, .ref q_t_row, .ref q_t_listing, .int t_listingLength, .long t_hash])), (q_t_m, .inl (cy 0, 378, .inl t_m)), (q_t_scores, .inl (cy 0, 16, .inl t_scores)), (q_t_counts, .inl (cy 0, 96, .inl t_counts)), (q_t_order, .inl (cy 0, 16, .inl t_order)), (q_t_row, .inl (cy 0, 16, .inl t_row))] 70 [(0, .ref q_t), (1, .int x1)] [] := by
  intro n
  induction n with
  | zero => intro x1 t_hash h; exact False.elim h
  | succ n ih =>
    intro x1 t_hash h
    unfold p_X6_mixThings_70 at h
    refine v_iload_n cx dX6_mixThings_70 rfl 1 rfl ?_
    refine v_bipush (v := 6) cx dX6_mixThings_71 (by decide) ?_
    refine v_icmp_ge (tgt := 120) cx dX6_mixThings_73 (by decide) h (fun h => ?_) (fun h => ?_)
    · refine v_lv (lv' := [(0, .ref q_t), (1, .int x1)]) [0, 1] rfl ?_
      exact hK120 _ _ h
    · refine v_iconst (v := 0) cx dX6_mixThings_76 (by decide) ?_
      refine v_istore_n (lv' := [(2, .int 0), (0, .ref q_t), (1, .int x1)]) cx dX6_mixThings_77 rfl (by decide) rfl ?_
      refine v_lv (lv' := [(0, .ref q_t), (1, .int x1), (2, .int 0)]) [1, 2, 0] rfl ?_
      refine w_X6_mixThings_78 cx q_t q_t_m q_t_saved q_t_text q_t_read q_t_counts q_t_scores q_t_isIn q_t_order q_t_row q_t_listing ?_ N _ _ h
      · intro x2_13 t_hash_14 h
        refine v_iinc (v := x1 + 1) (k0 := 1) (lv' := [(1, .int (x1 + 1)), (0, .ref q_t), (2, .int x2_13)]) cx dX6_mixThings_114 rfl rfl (by decide) rfl ?_
        refine v_goto (tgt := 70) cx dX6_mixThings_117 (by decide) ?_
        refine v_lv (lv' := [(0, .ref q_t), (1, .int (x1 + 1))]) [1, 0] rfl ?_
        exact ih _ _ h
set_option maxHeartbeats 4000000 in
set_option maxRecDepth 100000 in
theorem c_X6_mixThings (l : Launch) (g : gT) (D : va_G) (cy : Nat → ClassId) (q_t q_t_m q_t_saved q_t_text q_t_read q_t_counts q_t_scores q_t_isIn q_t_order q_t_row q_t_listing : Nat) {t_savedCount : Int32} {t_textLength : Int32} {t_code : Int32} {t_at : Int32} {t_number : Int32} {t_ranked : Int32} {t_emptySide : Int32} {t_listingLength : Int32} {t_hash : Int64} {t_m : Nat → Int32} {t_scores : Nat → Int32} {t_counts : Nat → Int32} {t_order : Nat → Int32} {t_row : Nat → Int32} {N : Nat} {Q : Int64 → Prop} (h : p_X6_mixThings N t_savedCount t_textLength t_code t_at t_number t_ranked t_emptySide t_listingLength t_hash t_m t_scores t_counts t_order t_row Q) : UC l yX6_mixThings cX6_mixThings 3 none rm_X6_mixThings g D cy [.ref q_t] [(q_t, .inr (6, [.ref q_t_m, .ref q_t_saved, .int t_savedCount, .ref q_t_text, .int t_textLength, .int t_code, .int t_at, .ref q_t_read, .int t_number, .ref q_t_counts, .ref q_t_scores, .ref q_t_isIn, .ref q_t_order, .int t_ranked, .int t_emptySide, .ref q_t_row, .ref q_t_listing, .int t_listingLength, .long t_hash])), (q_t_m, .inl (cy 0, 378, .inl t_m)), (q_t_scores, .inl (cy 0, 16, .inl t_scores)), (q_t_counts, .inl (cy 0, 96, .inl t_counts)), (q_t_order, .inl (cy 0, 16, .inl t_order)), (q_t_row, .inl (cy 0, 16, .inl t_row))] (fun v w => ∃ (t_hash' : Int64), v = none ∧ w = [(q_t, .inr (6, [.ref q_t_m, .ref q_t_saved, .int t_savedCount, .ref q_t_text, .int t_textLength, .int t_code, .int t_at, .ref q_t_read, .int t_number, .ref q_t_counts, .ref q_t_scores, .ref q_t_isIn, .ref q_t_order, .int t_ranked, .int t_emptySide, .ref q_t_row, .ref q_t_listing, .int t_listingLength, .long t_hash'])), (q_t_m, .inl (cy 0, 378, .inl t_m)), (q_t_scores, .inl (cy 0, 16, .inl t_scores)), (q_t_counts, .inl (cy 0, 96, .inl t_counts)), (q_t_order, .inl (cy 0, 16, .inl t_order)), (q_t_row, .inl (cy 0, 16, .inl t_row))] ∧ Q t_hash') := by
  refine UC_of (by decide +kernel) (Nat.le_of_ble_eq_true rfl) [(0, .ref q_t)] rfl (fun p e s m args below meth c A cx => ?_)
  unfold p_X6_mixThings at h
  refine v_iconst (v := 0) cx dX6_mixThings_0 (by decide) ?_
  refine v_istore_n (lv' := [(1, .int 0), (0, .ref q_t)]) cx dX6_mixThings_1 rfl (by decide) rfl ?_
  refine v_lv (lv' := [(0, .ref q_t), (1, .int 0)]) [1, 0] rfl ?_
  refine w_X6_mixThings_2 cx q_t q_t_m q_t_saved q_t_text q_t_read q_t_counts q_t_scores q_t_isIn q_t_order q_t_row q_t_listing ?_ N _ _ h
  · intro x1_9 t_hash_10 h
    refine v_iconst (v := 0) cx dX6_mixThings_68 (by decide) ?_
    refine v_istore_n (lv' := [(1, .int 0), (0, .ref q_t)]) cx dX6_mixThings_69 rfl (by decide) rfl ?_
    refine v_lv (lv' := [(0, .ref q_t), (1, .int 0)]) [1, 0] rfl ?_
    refine w_X6_mixThings_70 cx q_t q_t_m q_t_saved q_t_text q_t_read q_t_counts q_t_scores q_t_isIn q_t_order q_t_row q_t_listing ?_ N _ _ h
    · intro x1_15 t_hash_16 h
      exact v_return cx dX6_mixThings_120 ⟨_, rfl, rfl, h⟩
abbrev rm_X6_digest : Room := { frames := 6, cells := 0, slots := 0, locals := 134 }
set_option maxHeartbeats 4000000 in
set_option maxRecDepth 100000 in
theorem w_X6_digest_31 {p : Program} {l : Launch} {e : Env} {s : State} {m : MethodId} {args : Array Value} {below : List Frame} {meth : Method} {c : Code} {Q9 : State → Prop} {mn : String} {Ts : List Cond} {D : va_G} {cy : Nat → ClassId} {g : gT} {A : Nat → Prop} (cx : vC p s m args meth c cX6_digest 2 (some .long) RX6 mn Ts D cy g A) (q_t q_t_m q_t_saved q_t_text q_t_read q_t_counts q_t_scores q_t_isIn q_t_order q_t_row q_t_listing : Nat) {t_savedCount : Int32} {t_textLength : Int32} {t_code : Int32} {t_at : Int32} {t_number : Int32} {t_ranked : Int32} {t_emptySide : Int32} {t_listingLength : Int32} {t_m : Nat → Int32} {t_counts : Nat → Int32} {t_scores : Nat → Int32} {t_isIn : Nat → Int32} {t_order : Nat → Int32} {t_row : Nat → Int32} {t_listing : Nat → Int32} {N : Nat} {K53 : Int32 → Int64 → Prop} (hK53 : ∀ (x1 : Int32) (t_hash : Int64), K53 x1 t_hash → vV p l e rm_X6_digest s m args below meth c Q9 2 D A 0 0 [(q_t, .inr (6, [.ref q_t_m, .ref q_t_saved, .int t_savedCount, .ref q_t_text, .int t_textLength, .int t_code, .int t_at, .ref q_t_read, .int t_number, .ref q_t_counts, .ref q_t_scores, .ref q_t_isIn, .ref q_t_order, .int t_ranked, .int t_emptySide, .ref q_t_row, .ref q_t_listing, .int t_listingLength, .long t_hash])), (q_t_m, .inl (cy 0, 378, .inl t_m)), (q_t_counts, .inl (cy 0, 96, .inl t_counts)), (q_t_scores, .inl (cy 0, 16, .inl t_scores)), (q_t_isIn, .inl (cy 3, 16, .inl t_isIn)), (q_t_order, .inl (cy 0, 16, .inl t_order)), (q_t_row, .inl (cy 0, 16, .inl t_row)), (q_t_listing, .inl (cy 0, 800, .inl t_listing))] 53 [(0, .ref q_t), (1, .int x1)] []) : ∀ (n : Nat) (x1 : Int32) (t_hash : Int64), p_X6_digest_31 N t_savedCount t_textLength t_code t_at t_number t_ranked t_emptySide t_listingLength t_m t_counts t_scores t_isIn t_order t_row t_listing K53 n x1 t_hash → vV p l e rm_X6_digest s m args below meth c Q9 2 D A 0 0 [(q_t, .inr (6, [.ref q_t_m, .ref q_t_saved, .int t_savedCount, .ref q_t_text, .int t_textLength, .int t_code, .int t_at, .ref q_t_read, .int t_number, .ref q_t_counts, .ref q_t_scores, .ref q_t_isIn, .ref q_t_order, .int t_ranked, .int t_emptySide, .ref q_t_row, .ref q_t_listing, .int t_listingLength, .long t_hash])), (q_t_m, .inl (cy 0, 378, .inl t_m)), (q_t_counts, .inl (cy 0, 96, .inl t_counts)), (q_t_scores, .inl (cy 0, 16, .inl t_scores)), (q_t_isIn, .inl (cy 3, 16, .inl t_isIn)), (q_t_order, .inl (cy 0, 16, .inl t_order)), (q_t_row, .inl (cy 0, 16, .inl t_row)), (q_t_listing, .inl (cy 0, 800, .inl t_listing))] 31 [(0, .ref q_t), (1, .int x1)] [] := by
  intro n
  induction n with
  | zero => intro x1 t_hash h; exact False.elim h
  | succ n ih =>
    intro x1 t_hash h
    unfold p_X6_digest_31 at h
    refine v_iload_n cx dX6_digest_31 rfl 1 rfl ?_
    refine v_bipush (v := 11) cx dX6_digest_32 (by decide) ?_
    refine v_icmp_ge (tgt := 53) cx dX6_digest_34 (by decide) h (fun h => ?_) (fun h => ?_)
    · refine v_lv (lv' := [(0, .ref q_t), (1, .int x1)]) [0, 1] rfl ?_
      exact hK53 _ _ h
    · refine v_aload_n cx dX6_digest_37 rfl 0 rfl ?_
      refine v_aload_n cx dX6_digest_38 rfl 0 rfl ?_
      refine v_iload_n cx dX6_digest_39 rfl 1 rfl ?_
      refine v_callVpi (As := [.int x1]) cx (c_X6_wholeOf l g D cy q_t q_t_m q_t_saved q_t_text q_t_read q_t_counts q_t_scores q_t_isIn q_t_order q_t_row q_t_listing h) k_X6_227 (by decide) ⟨rfl, rfl⟩ (by decide) rfl rfl (Nat.le_of_ble_eq_true rfl) dX6_digest_40 [0, 1, 5, 3] [2, 4, 6, 7] (by decide) (vj_all 8 rfl (by decide +kernel)) rfl rfl rfl (q0 := 0) rfl rfl (fun r_10 h => ?_)
      refine v_i2l cx dX6_digest_43 ?_
      refine v_callV (As := [.long r_10.toInt64]) cx (c_X6_mix l g D cy q_t q_t_m q_t_saved q_t_text q_t_read q_t_counts q_t_scores q_t_isIn q_t_order q_t_row q_t_listing h) k_X6_242 (by decide) (by decide) rfl rfl (Nat.le_of_ble_eq_true rfl) dX6_digest_44 [0] [1, 2, 3, 4, 5, 6, 7] (by decide) rfl rfl rfl (q0 := 0) rfl rfl (fun v9 w9 hp => ?_)
      obtain ⟨u_11, rfl, rfl, h⟩ := hp
      refine v_afterJ (ws' := [(q_t, .inr (6, [.ref q_t_m, .ref q_t_saved, .int t_savedCount, .ref q_t_text, .int t_textLength, .int t_code, .int t_at, .ref q_t_read, .int t_number, .ref q_t_counts, .ref q_t_scores, .ref q_t_isIn, .ref q_t_order, .int t_ranked, .int t_emptySide, .ref q_t_row, .ref q_t_listing, .int t_listingLength, .long u_11])), (q_t_m, .inl (cy 0, 378, .inl t_m)), (q_t_counts, .inl (cy 0, 96, .inl t_counts)), (q_t_scores, .inl (cy 0, 16, .inl t_scores)), (q_t_isIn, .inl (cy 3, 16, .inl t_isIn)), (q_t_order, .inl (cy 0, 16, .inl t_order)), (q_t_row, .inl (cy 0, 16, .inl t_row)), (q_t_listing, .inl (cy 0, 800, .inl t_listing))]) (st' := []) (ce := 0) (sl := 0) 8 [8, 1, 2, 3, 4, 5, 6, 7] (by decide +kernel) (by decide +kernel) rfl rfl ⟨rfl, rfl⟩ ?_
      refine v_iinc (v := x1 + 1) (k0 := 1) (lv' := [(1, .int (x1 + 1)), (0, .ref q_t)]) cx dX6_digest_47 rfl rfl (by decide) rfl ?_
      refine v_goto (tgt := 31) cx dX6_digest_50 (by decide) ?_
      refine v_lv (lv' := [(0, .ref q_t), (1, .int (x1 + 1))]) [1, 0] rfl ?_
      exact ih _ _ h
set_option maxHeartbeats 4000000 in
set_option maxRecDepth 100000 in
theorem w_X6_digest_59 {p : Program} {l : Launch} {e : Env} {s : State} {m : MethodId} {args : Array Value} {below : List Frame} {meth : Method} {c : Code} {Q9 : State → Prop} {mn : String} {Ts : List Cond} {D : va_G} {cy : Nat → ClassId} {g : gT} {A : Nat → Prop} (cx : vC p s m args meth c cX6_digest 2 (some .long) RX6 mn Ts D cy g A) (q_t q_t_m q_t_saved q_t_text q_t_read q_t_counts q_t_scores q_t_isIn q_t_order q_t_row q_t_listing : Nat) {t_savedCount : Int32} {t_textLength : Int32} {t_code : Int32} {t_at : Int32} {t_number : Int32} {t_ranked : Int32} {t_emptySide : Int32} {t_listingLength : Int32} {t_m : Nat → Int32} {t_counts : Nat → Int32} {t_scores : Nat → Int32} {t_isIn : Nat → Int32} {t_order : Nat → Int32} {t_row : Nat → Int32} {t_listing : Nat → Int32} {N : Nat} {K84 : Int32 → Int64 → Prop} (hK84 : ∀ (x1 : Int32) (t_hash : Int64), K84 x1 t_hash → vV p l e rm_X6_digest s m args below meth c Q9 2 D A 0 0 [(q_t, .inr (6, [.ref q_t_m, .ref q_t_saved, .int t_savedCount, .ref q_t_text, .int t_textLength, .int t_code, .int t_at, .ref q_t_read, .int t_number, .ref q_t_counts, .ref q_t_scores, .ref q_t_isIn, .ref q_t_order, .int t_ranked, .int t_emptySide, .ref q_t_row, .ref q_t_listing, .int t_listingLength, .long t_hash])), (q_t_m, .inl (cy 0, 378, .inl t_m)), (q_t_counts, .inl (cy 0, 96, .inl t_counts)), (q_t_scores, .inl (cy 0, 16, .inl t_scores)), (q_t_isIn, .inl (cy 3, 16, .inl t_isIn)), (q_t_order, .inl (cy 0, 16, .inl t_order)), (q_t_row, .inl (cy 0, 16, .inl t_row)), (q_t_listing, .inl (cy 0, 800, .inl t_listing))] 84 [(0, .ref q_t), (1, .int x1)] []) : ∀ (n : Nat) (x1 : Int32) (t_hash : Int64), p_X6_digest_59 N t_savedCount t_textLength t_code t_at t_number t_ranked t_emptySide t_listingLength t_m t_counts t_scores t_isIn t_order t_row t_listing K84 n x1 t_hash → vV p l e rm_X6_digest s m args below meth c Q9 2 D A 0 0 [(q_t, .inr (6, [.ref q_t_m, .ref q_t_saved, .int t_savedCount, .ref q_t_text, .int t_textLength, .int t_code, .int t_at, .ref q_t_read, .int t_number, .ref q_t_counts, .ref q_t_scores, .ref q_t_isIn, .ref q_t_order, .int t_ranked, .int t_emptySide, .ref q_t_row, .ref q_t_listing, .int t_listingLength, .long t_hash])), (q_t_m, .inl (cy 0, 378, .inl t_m)), (q_t_counts, .inl (cy 0, 96, .inl t_counts)), (q_t_scores, .inl (cy 0, 16, .inl t_scores)), (q_t_isIn, .inl (cy 3, 16, .inl t_isIn)), (q_t_order, .inl (cy 0, 16, .inl t_order)), (q_t_row, .inl (cy 0, 16, .inl t_row)), (q_t_listing, .inl (cy 0, 800, .inl t_listing))] 59 [(0, .ref q_t), (1, .int x1)] [] := by
  intro n
  induction n with
  | zero => intro x1 t_hash h; exact False.elim h
  | succ n ih =>
    intro x1 t_hash h
    unfold p_X6_digest_59 at h
    refine v_iload_n cx dX6_digest_59 rfl 1 rfl ?_
    refine v_aload_n cx dX6_digest_60 rfl 0 rfl ?_
    refine g_X6_164 cx dX6_digest_61 0 rfl rfl ?_
    refine v_icmp_ge (tgt := 84) cx dX6_digest_64 (by decide) h (fun h => ?_) (fun h => ?_)
    · refine v_lv (lv' := [(0, .ref q_t), (1, .int x1)]) [0, 1] rfl ?_
      exact hK84 _ _ h
    · refine v_aload_n cx dX6_digest_67 rfl 0 rfl ?_
      refine v_aload_n cx dX6_digest_68 rfl 0 rfl ?_
      refine g_X6_32 cx dX6_digest_69 0 rfl rfl ?_
      refine v_iload_n cx dX6_digest_72 rfl 1 rfl ?_
      refine v_iald cx dX6_digest_73 5 rfl h (fun h => ?_)
      refine v_i2l cx dX6_digest_74 ?_
      refine v_callV (As := [.long ((t_order x1.toNatClampNeg).toInt64)]) cx (c_X6_mix l g D cy q_t q_t_m q_t_saved q_t_text q_t_read q_t_counts q_t_scores q_t_isIn q_t_order q_t_row q_t_listing h) k_X6_242 (by decide) (by decide) rfl rfl (Nat.le_of_ble_eq_true rfl) dX6_digest_75 [0] [1, 2, 3, 4, 5, 6, 7] (by decide) rfl rfl rfl (q0 := 0) rfl rfl (fun v9 w9 hp => ?_)
      obtain ⟨u_15, rfl, rfl, h⟩ := hp
      refine v_afterJ (ws' := [(q_t, .inr (6, [.ref q_t_m, .ref q_t_saved, .int t_savedCount, .ref q_t_text, .int t_textLength, .int t_code, .int t_at, .ref q_t_read, .int t_number, .ref q_t_counts, .ref q_t_scores, .ref q_t_isIn, .ref q_t_order, .int t_ranked, .int t_emptySide, .ref q_t_row, .ref q_t_listing, .int t_listingLength, .long u_15])), (q_t_m, .inl (cy 0, 378, .inl t_m)), (q_t_counts, .inl (cy 0, 96, .inl t_counts)), (q_t_scores, .inl (cy 0, 16, .inl t_scores)), (q_t_isIn, .inl (cy 3, 16, .inl t_isIn)), (q_t_order, .inl (cy 0, 16, .inl t_order)), (q_t_row, .inl (cy 0, 16, .inl t_row)), (q_t_listing, .inl (cy 0, 800, .inl t_listing))]) (st' := []) (ce := 0) (sl := 0) 8 [8, 1, 2, 3, 4, 5, 6, 7] (by decide +kernel) (by decide +kernel) rfl rfl ⟨rfl, rfl⟩ ?_
      refine v_iinc (v := x1 + 1) (k0 := 1) (lv' := [(1, .int (x1 + 1)), (0, .ref q_t)]) cx dX6_digest_78 rfl rfl (by decide) rfl ?_
      refine v_goto (tgt := 59) cx dX6_digest_81 (by decide) ?_
      refine v_lv (lv' := [(0, .ref q_t), (1, .int (x1 + 1))]) [1, 0] rfl ?_
      exact ih _ _ h
set_option maxHeartbeats 4000000 in
set_option maxRecDepth 100000 in
theorem w_X6_digest_86 {p : Program} {l : Launch} {e : Env} {s : State} {m : MethodId} {args : Array Value} {below : List Frame} {meth : Method} {c : Code} {Q9 : State → Prop} {mn : String} {Ts : List Cond} {D : va_G} {cy : Nat → ClassId} {g : gT} {A : Nat → Prop} (cx : vC p s m args meth c cX6_digest 2 (some .long) RX6 mn Ts D cy g A) (q_t q_t_m q_t_saved q_t_text q_t_read q_t_counts q_t_scores q_t_isIn q_t_order q_t_row q_t_listing : Nat) {t_savedCount : Int32} {t_textLength : Int32} {t_code : Int32} {t_at : Int32} {t_number : Int32} {t_ranked : Int32} {t_emptySide : Int32} {t_listingLength : Int32} {t_m : Nat → Int32} {t_counts : Nat → Int32} {t_scores : Nat → Int32} {t_isIn : Nat → Int32} {t_order : Nat → Int32} {t_row : Nat → Int32} {t_listing : Nat → Int32} {N : Nat} {K111 : Int32 → Int64 → Prop} (hK111 : ∀ (x1 : Int32) (t_hash : Int64), K111 x1 t_hash → vV p l e rm_X6_digest s m args below meth c Q9 2 D A 0 0 [(q_t, .inr (6, [.ref q_t_m, .ref q_t_saved, .int t_savedCount, .ref q_t_text, .int t_textLength, .int t_code, .int t_at, .ref q_t_read, .int t_number, .ref q_t_counts, .ref q_t_scores, .ref q_t_isIn, .ref q_t_order, .int t_ranked, .int t_emptySide, .ref q_t_row, .ref q_t_listing, .int t_listingLength, .long t_hash])), (q_t_m, .inl (cy 0, 378, .inl t_m)), (q_t_counts, .inl (cy 0, 96, .inl t_counts)), (q_t_scores, .inl (cy 0, 16, .inl t_scores)), (q_t_isIn, .inl (cy 3, 16, .inl t_isIn)), (q_t_order, .inl (cy 0, 16, .inl t_order)), (q_t_row, .inl (cy 0, 16, .inl t_row)), (q_t_listing, .inl (cy 0, 800, .inl t_listing))] 111 [(0, .ref q_t), (1, .int x1)] []) : ∀ (n : Nat) (x1 : Int32) (t_hash : Int64), p_X6_digest_86 N t_savedCount t_textLength t_code t_at t_number t_ranked t_emptySide t_listingLength t_m t_counts t_scores t_isIn t_order t_row t_listing K111 n x1 t_hash → vV p l e rm_X6_digest s m args below meth c Q9 2 D A 0 0 [(q_t, .inr (6, [.ref q_t_m, .ref q_t_saved, .int t_savedCount, .ref q_t_text, .int t_textLength, .int t_code, .int t_at, .ref q_t_read, .int t_number, .ref q_t_counts, .ref q_t_scores, .ref q_t_isIn, .ref q_t_order, .int t_ranked, .int t_emptySide, .ref q_t_row, .ref q_t_listing, .int t_listingLength, .long t_hash])), (q_t_m, .inl (cy 0, 378, .inl t_m)), (q_t_counts, .inl (cy 0, 96, .inl t_counts)), (q_t_scores, .inl (cy 0, 16, .inl t_scores)), (q_t_isIn, .inl (cy 3, 16, .inl t_isIn)), (q_t_order, .inl (cy 0, 16, .inl t_order)), (q_t_row, .inl (cy 0, 16, .inl t_row)), (q_t_listing, .inl (cy 0, 800, .inl t_listing))] 86 [(0, .ref q_t), (1, .int x1)] [] := by
  intro n
  induction n with
  | zero => intro x1 t_hash h; exact False.elim h
  | succ n ih =>
    intro x1 t_hash h
    unfold p_X6_digest_86 at h
    refine v_iload_n cx dX6_digest_86 rfl 1 rfl ?_
    refine v_aload_n cx dX6_digest_87 rfl 0 rfl ?_
    refine g_X6_183 cx dX6_digest_88 0 rfl rfl ?_
    refine v_icmp_ge (tgt := 111) cx dX6_digest_91 (by decide) h (fun h => ?_) (fun h => ?_)
    · refine v_lv (lv' := [(0, .ref q_t), (1, .int x1)]) [0, 1] rfl ?_
      exact hK111 _ _ h
    · refine v_aload_n cx dX6_digest_94 rfl 0 rfl ?_
      refine v_aload_n cx dX6_digest_95 rfl 0 rfl ?_
      refine g_X6_42 cx dX6_digest_96 0 rfl rfl ?_
      refine v_iload_n cx dX6_digest_99 rfl 1 rfl ?_
      refine v_iald cx dX6_digest_100 7 rfl h (fun h => ?_)
      refine v_i2l cx dX6_digest_101 ?_
      refine v_callV (As := [.long ((t_listing x1.toNatClampNeg).toInt64)]) cx (c_X6_mix l g D cy q_t q_t_m q_t_saved q_t_text q_t_read q_t_counts q_t_scores q_t_isIn q_t_order q_t_row q_t_listing h) k_X6_242 (by decide) (by decide) rfl rfl (Nat.le_of_ble_eq_true rfl) dX6_digest_102 [0] [1, 2, 3, 4, 5, 6, 7] (by decide) rfl rfl rfl (q0 := 0) rfl rfl (fun v9 w9 hp => ?_)
      obtain ⟨u_18, rfl, rfl, h⟩ := hp
      refine v_afterJ (ws' := [(q_t, .inr (6, [.ref q_t_m, .ref q_t_saved, .int t_savedCount, .ref q_t_text, .int t_textLength, .int t_code, .int t_at, .ref q_t_read, .int t_number, .ref q_t_counts, .ref q_t_scores, .ref q_t_isIn, .ref q_t_order, .int t_ranked, .int t_emptySide, .ref q_t_row, .ref q_t_listing, .int t_listingLength, .long u_18])), (q_t_m, .inl (cy 0, 378, .inl t_m)), (q_t_counts, .inl (cy 0, 96, .inl t_counts)), (q_t_scores, .inl (cy 0, 16, .inl t_scores)), (q_t_isIn, .inl (cy 3, 16, .inl t_isIn)), (q_t_order, .inl (cy 0, 16, .inl t_order)), (q_t_row, .inl (cy 0, 16, .inl t_row)), (q_t_listing, .inl (cy 0, 800, .inl t_listing))]) (st' := []) (ce := 0) (sl := 0) 8 [8, 1, 2, 3, 4, 5, 6, 7] (by decide +kernel) (by decide +kernel) rfl rfl ⟨rfl, rfl⟩ ?_
      refine v_iinc (v := x1 + 1) (k0 := 1) (lv' := [(1, .int (x1 + 1)), (0, .ref q_t)]) cx dX6_digest_105 rfl rfl (by decide) rfl ?_
      refine v_goto (tgt := 86) cx dX6_digest_108 (by decide) ?_
      refine v_lv (lv' := [(0, .ref q_t), (1, .int (x1 + 1))]) [1, 0] rfl ?_
      exact ih _ _ h
set_option maxHeartbeats 4000000 in
set_option maxRecDepth 100000 in
theorem c_X6_digest (l : Launch) (g : gT) (D : va_G) (cy : Nat → ClassId) (q_t q_t_m q_t_saved q_t_text q_t_read q_t_counts q_t_scores q_t_isIn q_t_order q_t_row q_t_listing : Nat) {t_savedCount : Int32} {t_textLength : Int32} {t_code : Int32} {t_at : Int32} {t_number : Int32} {t_ranked : Int32} {t_emptySide : Int32} {t_listingLength : Int32} {t_hash : Int64} {t_m : Nat → Int32} {t_counts : Nat → Int32} {t_scores : Nat → Int32} {t_isIn : Nat → Int32} {t_order : Nat → Int32} {t_row : Nat → Int32} {t_listing : Nat → Int32} {N : Nat} {Q : Int64 → Int32 → Int32 → Int32 → Int64 → (Nat → Int32) → (Nat → Int32) → (Nat → Int32) → (Nat → Int32) → (Nat → Int32) → (Nat → Int32) → Prop} (h : p_X6_digest N t_savedCount t_textLength t_code t_at t_number t_ranked t_emptySide t_listingLength t_hash t_m t_counts t_scores t_isIn t_order t_row t_listing Q) : UC l yX6_digest cX6_digest 2 (some .long) rm_X6_digest g D cy [.ref q_t] [(q_t, .inr (6, [.ref q_t_m, .ref q_t_saved, .int t_savedCount, .ref q_t_text, .int t_textLength, .int t_code, .int t_at, .ref q_t_read, .int t_number, .ref q_t_counts, .ref q_t_scores, .ref q_t_isIn, .ref q_t_order, .int t_ranked, .int t_emptySide, .ref q_t_row, .ref q_t_listing, .int t_listingLength, .long t_hash])), (q_t_m, .inl (cy 0, 378, .inl t_m)), (q_t_counts, .inl (cy 0, 96, .inl t_counts)), (q_t_scores, .inl (cy 0, 16, .inl t_scores)), (q_t_isIn, .inl (cy 3, 16, .inl t_isIn)), (q_t_order, .inl (cy 0, 16, .inl t_order)), (q_t_row, .inl (cy 0, 16, .inl t_row)), (q_t_listing, .inl (cy 0, 800, .inl t_listing))] (fun v w => ∃ (r : Int64) (t_code' : Int32) (t_ranked' : Int32) (t_listingLength' : Int32) (t_hash' : Int64) (t_counts' : Nat → Int32) (t_scores' : Nat → Int32) (t_isIn' : Nat → Int32) (t_order' : Nat → Int32) (t_row' : Nat → Int32) (t_listing' : Nat → Int32), v = some (.long r) ∧ w = [(q_t, .inr (6, [.ref q_t_m, .ref q_t_saved, .int t_savedCount, .ref q_t_text, .int t_textLength, .int t_code', .int t_at, .ref q_t_read, .int t_number, .ref q_t_counts, .ref q_t_scores, .ref q_t_isIn, .ref q_t_order, .int t_ranked', .int t_emptySide, .ref q_t_row, .ref q_t_listing, .int t_listingLength', .long t_hash'])), (q_t_m, .inl (cy 0, 378, .inl t_m)), (q_t_counts, .inl (cy 0, 96, .inl t_counts')), (q_t_scores, .inl (cy 0, 16, .inl t_scores')), (q_t_isIn, .inl (cy 3, 16, .inl t_isIn')), (q_t_order, .inl (cy 0, 16, .inl t_order')), (q_t_row, .inl (cy 0, 16, .inl t_row')), (q_t_listing, .inl (cy 0, 800, .inl t_listing'))] ∧ Q r t_code' t_ranked' t_listingLength' t_hash' t_counts' t_scores' t_isIn' t_order' t_row' t_listing') := by
  refine UC_of (by decide +kernel) (Nat.le_of_ble_eq_true rfl) [(0, .ref q_t)] rfl (fun p e s m args below meth c A cx => ?_)
  unfold p_X6_digest at h
  refine v_aload_n cx dX6_digest_0 rfl 0 rfl ?_
  refine v_iconst (v := 0) cx dX6_digest_1 (by decide) ?_
  refine p_X6_45 (ws' := [(q_t, .inr (6, [.ref q_t_m, .ref q_t_saved, .int t_savedCount, .ref q_t_text, .int t_textLength, .int 0, .int t_at, .ref q_t_read, .int t_number, .ref q_t_counts, .ref q_t_scores, .ref q_t_isIn, .ref q_t_order, .int t_ranked, .int t_emptySide, .ref q_t_row, .ref q_t_listing, .int t_listingLength, .long t_hash])), (q_t_m, .inl (cy 0, 378, .inl t_m)), (q_t_counts, .inl (cy 0, 96, .inl t_counts)), (q_t_scores, .inl (cy 0, 16, .inl t_scores)), (q_t_isIn, .inl (cy 3, 16, .inl t_isIn)), (q_t_order, .inl (cy 0, 16, .inl t_order)), (q_t_row, .inl (cy 0, 16, .inl t_row)), (q_t_listing, .inl (cy 0, 800, .inl t_listing))]) cx dX6_digest_2 0 rfl rfl rfl (Nat.le_of_ble_eq_true rfl) rfl ?_
  refine v_aload_n cx dX6_digest_5 rfl 0 rfl ?_
  refine v_callV (As := []) cx (c_X6_survey l g D cy q_t q_t_m q_t_saved q_t_text q_t_read q_t_counts q_t_scores q_t_isIn q_t_order q_t_row q_t_listing h) k_X6_209 (by decide) (by decide) rfl rfl (Nat.le_of_ble_eq_true rfl) dX6_digest_6 [0, 1, 2, 3, 4, 5] [6, 7] (by decide) rfl rfl rfl (q0 := 0) rfl rfl (fun v9 w9 hp => ?_)
  refine Exists.elim hp fun u_1 hp => Exists.elim hp fun u_2 hp => Exists.elim hp fun u_3 hp => Exists.elim hp fun u_4 hp => Exists.elim hp fun u_5 hp => ?_
  obtain ⟨rfl, rfl, h⟩ := hp
  refine v_afterJ (ws' := [(q_t, .inr (6, [.ref q_t_m, .ref q_t_saved, .int t_savedCount, .ref q_t_text, .int t_textLength, .int 0, .int t_at, .ref q_t_read, .int t_number, .ref q_t_counts, .ref q_t_scores, .ref q_t_isIn, .ref q_t_order, .int u_1, .int t_emptySide, .ref q_t_row, .ref q_t_listing, .int t_listingLength, .long t_hash])), (q_t_m, .inl (cy 0, 378, .inl t_m)), (q_t_counts, .inl (cy 0, 96, .inl u_2)), (q_t_scores, .inl (cy 0, 16, .inl u_3)), (q_t_isIn, .inl (cy 3, 16, .inl u_4)), (q_t_order, .inl (cy 0, 16, .inl u_5)), (q_t_row, .inl (cy 0, 16, .inl t_row)), (q_t_listing, .inl (cy 0, 800, .inl t_listing))]) (st' := []) (ce := 0) (sl := 0) 8 [8, 9, 10, 11, 12, 13, 6, 7] (by decide +kernel) (by decide +kernel) rfl rfl ⟨rfl, rfl⟩ ?_
  refine v_aload_n cx dX6_digest_9 rfl 0 rfl ?_
  refine v_callV (As := []) cx (c_X6_writeListing l g D cy q_t q_t_m q_t_saved q_t_text q_t_read q_t_counts q_t_scores q_t_isIn q_t_order q_t_row q_t_listing h) k_X6_224 (by decide) (by decide) rfl rfl (Nat.le_of_ble_eq_true rfl) dX6_digest_10 [0, 1, 6, 7] [2, 3, 4, 5] (by decide) rfl rfl rfl (q0 := 0) rfl rfl (fun v9 w9 hp => ?_)
  obtain ⟨u_6, u_7, u_8, rfl, rfl, h⟩ := hp
  refine v_afterJ (ws' := [(q_t, .inr (6, [.ref q_t_m, .ref q_t_saved, .int t_savedCount, .ref q_t_text, .int t_textLength, .int 0, .int t_at, .ref q_t_read, .int t_number, .ref q_t_counts, .ref q_t_scores, .ref q_t_isIn, .ref q_t_order, .int u_1, .int t_emptySide, .ref q_t_row, .ref q_t_listing, .int u_6, .long t_hash])), (q_t_m, .inl (cy 0, 378, .inl t_m)), (q_t_counts, .inl (cy 0, 96, .inl u_2)), (q_t_scores, .inl (cy 0, 16, .inl u_3)), (q_t_isIn, .inl (cy 3, 16, .inl u_4)), (q_t_order, .inl (cy 0, 16, .inl u_5)), (q_t_row, .inl (cy 0, 16, .inl u_7)), (q_t_listing, .inl (cy 0, 800, .inl u_8))]) (st' := []) (ce := 0) (sl := 0) 8 [8, 9, 2, 3, 4, 5, 10, 11] (by decide +kernel) (by decide +kernel) rfl rfl ⟨rfl, rfl⟩ ?_
  refine v_aload_n cx dX6_digest_13 rfl 0 rfl ?_
  refine v_ldc2 cx dX6_digest_14 wKL_X6_246 ?_
  refine p_X6_238 (ws' := [(q_t, .inr (6, [.ref q_t_m, .ref q_t_saved, .int t_savedCount, .ref q_t_text, .int t_textLength, .int 0, .int t_at, .ref q_t_read, .int t_number, .ref q_t_counts, .ref q_t_scores, .ref q_t_isIn, .ref q_t_order, .int u_1, .int t_emptySide, .ref q_t_row, .ref q_t_listing, .int u_6, .long 12856])), (q_t_m, .inl (cy 0, 378, .inl t_m)), (q_t_counts, .inl (cy 0, 96, .inl u_2)), (q_t_scores, .inl (cy 0, 16, .inl u_3)), (q_t_isIn, .inl (cy 3, 16, .inl u_4)), (q_t_order, .inl (cy 0, 16, .inl u_5)), (q_t_row, .inl (cy 0, 16, .inl u_7)), (q_t_listing, .inl (cy 0, 800, .inl u_8))]) cx dX6_digest_17 0 rfl rfl rfl (Nat.le_of_ble_eq_true rfl) rfl ?_
  refine v_aload_n cx dX6_digest_20 rfl 0 rfl ?_
  refine v_aload_n cx dX6_digest_21 rfl 0 rfl ?_
  refine g_X6_48 cx dX6_digest_22 0 rfl rfl ?_
  refine v_i2l cx dX6_digest_25 ?_
  refine v_callV (As := [.long t_savedCount.toInt64]) cx (c_X6_mix l g D cy q_t q_t_m q_t_saved q_t_text q_t_read q_t_counts q_t_scores q_t_isIn q_t_order q_t_row q_t_listing h) k_X6_242 (by decide) (by decide) rfl rfl (Nat.le_of_ble_eq_true rfl) dX6_digest_26 [0] [1, 2, 3, 4, 5, 6, 7] (by decide) rfl rfl rfl (q0 := 0) rfl rfl (fun v9 w9 hp => ?_)
  obtain ⟨u_9, rfl, rfl, h⟩ := hp
  refine v_afterJ (ws' := [(q_t, .inr (6, [.ref q_t_m, .ref q_t_saved, .int t_savedCount, .ref q_t_text, .int t_textLength, .int 0, .int t_at, .ref q_t_read, .int t_number, .ref q_t_counts, .ref q_t_scores, .ref q_t_isIn, .ref q_t_order, .int u_1, .int t_emptySide, .ref q_t_row, .ref q_t_listing, .int u_6, .long u_9])), (q_t_m, .inl (cy 0, 378, .inl t_m)), (q_t_counts, .inl (cy 0, 96, .inl u_2)), (q_t_scores, .inl (cy 0, 16, .inl u_3)), (q_t_isIn, .inl (cy 3, 16, .inl u_4)), (q_t_order, .inl (cy 0, 16, .inl u_5)), (q_t_row, .inl (cy 0, 16, .inl u_7)), (q_t_listing, .inl (cy 0, 800, .inl u_8))]) (st' := []) (ce := 0) (sl := 0) 8 [8, 1, 2, 3, 4, 5, 6, 7] (by decide +kernel) (by decide +kernel) rfl rfl ⟨rfl, rfl⟩ ?_
  refine v_iconst (v := 0) cx dX6_digest_29 (by decide) ?_
  refine v_istore_n (lv' := [(1, .int 0), (0, .ref q_t)]) cx dX6_digest_30 rfl (by decide) rfl ?_
  refine v_lv (lv' := [(0, .ref q_t), (1, .int 0)]) [1, 0] rfl ?_
  refine w_X6_digest_31 cx q_t q_t_m q_t_saved q_t_text q_t_read q_t_counts q_t_scores q_t_isIn q_t_order q_t_row q_t_listing ?_ N _ _ h
  · intro x1_12 t_hash_13 h
    refine v_aload_n cx dX6_digest_53 rfl 0 rfl ?_
    refine v_callV (As := []) cx (c_X6_mixThings l g D cy q_t q_t_m q_t_saved q_t_text q_t_read q_t_counts q_t_scores q_t_isIn q_t_order q_t_row q_t_listing h) k_X6_248 (by decide) (by decide) rfl rfl (Nat.le_of_ble_eq_true rfl) dX6_digest_54 [0, 1, 3, 2, 5, 6] [4, 7] (by decide) rfl rfl rfl (q0 := 0) rfl rfl (fun v9 w9 hp => ?_)
    obtain ⟨u_14, rfl, rfl, h⟩ := hp
    refine v_afterJ (ws' := [(q_t, .inr (6, [.ref q_t_m, .ref q_t_saved, .int t_savedCount, .ref q_t_text, .int t_textLength, .int 0, .int t_at, .ref q_t_read, .int t_number, .ref q_t_counts, .ref q_t_scores, .ref q_t_isIn, .ref q_t_order, .int u_1, .int t_emptySide, .ref q_t_row, .ref q_t_listing, .int u_6, .long u_14])), (q_t_m, .inl (cy 0, 378, .inl t_m)), (q_t_counts, .inl (cy 0, 96, .inl u_2)), (q_t_scores, .inl (cy 0, 16, .inl u_3)), (q_t_isIn, .inl (cy 3, 16, .inl u_4)), (q_t_order, .inl (cy 0, 16, .inl u_5)), (q_t_row, .inl (cy 0, 16, .inl u_7)), (q_t_listing, .inl (cy 0, 800, .inl u_8))]) (st' := []) (ce := 0) (sl := 0) 8 [8, 9, 11, 10, 4, 12, 13, 7] (by decide +kernel) (by decide +kernel) rfl rfl ⟨rfl, rfl⟩ ?_
    refine v_iconst (v := 0) cx dX6_digest_57 (by decide) ?_
    refine v_istore_n (lv' := [(1, .int 0), (0, .ref q_t)]) cx dX6_digest_58 rfl (by decide) rfl ?_
    refine v_lv (lv' := [(0, .ref q_t), (1, .int 0)]) [1, 0] rfl ?_
    refine w_X6_digest_59 cx q_t q_t_m q_t_saved q_t_text q_t_read q_t_counts q_t_scores q_t_isIn q_t_order q_t_row q_t_listing ?_ N _ _ h
    · intro x1_16 t_hash_17 h
      refine v_iconst (v := 0) cx dX6_digest_84 (by decide) ?_
      refine v_istore_n (lv' := [(1, .int 0), (0, .ref q_t)]) cx dX6_digest_85 rfl (by decide) rfl ?_
      refine v_lv (lv' := [(0, .ref q_t), (1, .int 0)]) [1, 0] rfl ?_
      refine w_X6_digest_86 cx q_t q_t_m q_t_saved q_t_text q_t_read q_t_counts q_t_scores q_t_isIn q_t_order q_t_row q_t_listing ?_ N _ _ h
      · intro x1_19 t_hash_20 h
        refine v_aload_n cx dX6_digest_111 rfl 0 rfl ?_
        refine g_X6_238 cx dX6_digest_112 0 rfl rfl ?_
        exact v_lreturn cx dX6_digest_115 ⟨_, _, _, _, _, _, _, _, _, _, _, rfl, rfl, h⟩
abbrev rm_L_type : Room := { frames := 7, cells := 1, slots := 6, locals := 103 }
set_option maxHeartbeats 8000000 in
set_option maxRecDepth 100000 in
theorem c_L_type (l : Launch) (hl : l.stackTraces = false) (g : gT) (D : va_G) (cy : Nat → ClassId) (q_p0 q_p0_text q_p0_reader q_p0_now q_p0_scores q_p0_trial q_p0_listing q_p0_kept q_p0_text_bytes q_p2 : Nat) {p0_keptCount : Int32} {p0_stale : Int32} {p0_text_length : Int32} {p0_text_bytes : Nat → Int32} {p2 : Nat → Int64} {x1 : Int32} {N : Nat} {Q : Int32 → Int32 → (Nat → Int32) → (Nat → Int64) → Prop} (h : p_L_type N p0_keptCount p0_stale p0_text_length p0_text_bytes p2 x1 Q) : UW l yL_type cL_type 4 (some .int) [(0, 9, 12, 13), (0, 9, 15, 15)] rm_L_type g D cy [.ref q_p0, .int x1, .ref q_p2] [(q_p0, .inr (5, [.ref q_p0_text, .ref q_p0_reader, .ref q_p0_now, .ref q_p0_scores, .ref q_p0_trial, .ref q_p0_listing, .ref q_p0_kept, .int p0_keptCount, .int p0_stale])), (q_p0_text, .inr (4, [.ref q_p0_text_bytes, .int p0_text_length])), (q_p0_text_bytes, .inl (cy 2, 120, .inl p0_text_bytes)), (q_p2, .inl (cy 1, 1, .inr (.inl p2)))] (fun v w => ∃ (r : Int32) (p0_text_length' : Int32) (p0_text_bytes' : Nat → Int32) (p2' : Nat → Int64), v = some (.int r) ∧ w = [(q_p0, .inr (5, [.ref q_p0_text, .ref q_p0_reader, .ref q_p0_now, .ref q_p0_scores, .ref q_p0_trial, .ref q_p0_listing, .ref q_p0_kept, .int p0_keptCount, .int p0_stale])), (q_p0_text, .inr (4, [.ref q_p0_text_bytes, .int p0_text_length'])), (q_p0_text_bytes, .inl (cy 2, 120, .inl p0_text_bytes')), (q_p2, .inl (cy 1, 1, .inr (.inl p2')))] ∧ Q r p0_text_length' p0_text_bytes' p2') := by
  refine UW_of (by decide +kernel) (Nat.le_of_ble_eq_true rfl) [(0, .ref q_p0), (1, .int x1), (2, .ref q_p2)] rfl (fun p e s m args below meth c A cx htb => ?_)
  unfold p_L_type at h
  refine v_aload_n cx dL_type_0 rfl 2 rfl ?_
  refine v_iconst (v := 0) cx dL_type_1 (by decide) ?_
  refine v_aload_n cx dL_type_2 rfl 0 rfl ?_
  refine v_iload_n cx dL_type_3 rfl 1 rfl ?_
  refine v_callVX (As := [.int x1]) cx (c_X5_type l hl g D cy q_p0 q_p0_text q_p0_reader q_p0_now q_p0_scores q_p0_trial q_p0_listing q_p0_kept q_p0_text_bytes h) k_L_7 (by decide) (by decide) rfl rfl (Nat.le_of_ble_eq_true rfl) dL_type_4 [0, 1, 2] [3] (by decide) rfl rfl rfl (q0 := 0) rfl rfl (fun E9 w9 hp => ?_) (fun v9 w9 hp => ?_)
  · obtain ⟨hE, hp⟩ := hp
    obtain ⟨u_2, u_3, rfl, h⟩ := hp
    refine v_permJ (ws' := [(q_p0, .inr (5, [.ref q_p0_text, .ref q_p0_reader, .ref q_p0_now, .ref q_p0_scores, .ref q_p0_trial, .ref q_p0_listing, .ref q_p0_kept, .int p0_keptCount, .int p0_stale])), (q_p0_text, .inr (4, [.ref q_p0_text_bytes, .int u_2])), (q_p0_text_bytes, .inl (cy 2, 120, .inl u_3)), (q_p2, .inl (cy 1, 1, .inr (.inl p2)))]) (ce := 1) (sl := 6) 4 [4, 5, 6, 3] (by decide +kernel) (by decide +kernel) rfl ⟨rfl, rfl⟩ ?_
    obtain ⟨h0, h1⟩ := h
    rcases hE with rfl | rfl
    · have h := h0 rfl
      refine v_catch cx htb [] (0, 9, 12, 13) [(0, 9, 15, 15)] rfl (fun _ h => nomatch h) (by decide) (by decide) wCL_L_13 (by decide +kernel) (fun q9 => ?_)
      refine v_astore_n (lv' := [(3, .ref q9), (0, .ref q_p0), (1, .int x1), (2, .ref q_p2)]) cx dL_type_12 rfl (by decide) rfl ?_
      refine v_iconst (v := 1) cx dL_type_13 (by decide) ?_
      exact v_ireturn cx rfl dL_type_14 ⟨_, _, _, _, rfl, rfl, h⟩
    · have h := h1 rfl
      refine v_catch cx htb [(0, 9, 12, 13)] (0, 9, 15, 15) [] rfl (fun z hz => by rcases List.mem_singleton.mp hz with rfl; exact ⟨by decide, _, wCL_L_13, by decide +kernel⟩) (by decide) (by decide) wCL_L_15 (by decide +kernel) (fun q9 => ?_)
      refine v_astore_n (lv' := [(3, .ref q9), (0, .ref q_p0), (1, .int x1), (2, .ref q_p2)]) cx dL_type_15 rfl (by decide) rfl ?_
      refine v_iconst (v := 2) cx dL_type_16 (by decide) ?_
      exact v_ireturn cx rfl dL_type_17 ⟨_, _, _, _, rfl, rfl, h⟩
  · obtain ⟨r_1, u_2, u_3, rfl, rfl, h⟩ := hp
    refine v_afterJ (ws' := [(q_p0, .inr (5, [.ref q_p0_text, .ref q_p0_reader, .ref q_p0_now, .ref q_p0_scores, .ref q_p0_trial, .ref q_p0_listing, .ref q_p0_kept, .int p0_keptCount, .int p0_stale])), (q_p0_text, .inr (4, [.ref q_p0_text_bytes, .int u_2])), (q_p0_text_bytes, .inl (cy 2, 120, .inl u_3)), (q_p2, .inl (cy 1, 1, .inr (.inl p2)))]) (st' := [.int r_1, .int 0, .ref q_p2]) (ce := 1) (sl := 6) 4 [4, 5, 6, 3] (by decide +kernel) (by decide +kernel) rfl rfl ⟨rfl, rfl⟩ ?_
    refine v_i2l cx dL_type_7 ?_
    refine v_last (ws' := [(q_p0, .inr (5, [.ref q_p0_text, .ref q_p0_reader, .ref q_p0_now, .ref q_p0_scores, .ref q_p0_trial, .ref q_p0_listing, .ref q_p0_kept, .int p0_keptCount, .int p0_stale])), (q_p0_text, .inr (4, [.ref q_p0_text_bytes, .int u_2])), (q_p0_text_bytes, .inl (cy 2, 120, .inl u_3)), (q_p2, .inl (cy 1, 1, .inr (.inl (vp_updL p2 ((0 : Int32).toNatClampNeg) r_1.toInt64))))]) cx dL_type_8 3 rfl ⟨by unfold vp_in; decide, h⟩ rfl (fun h => ?_)
    refine v_goto (tgt := 18) cx dL_type_9 (by decide) ?_
    refine v_iconst (v := 0) cx dL_type_18 (by decide) ?_
    exact v_ireturn cx rfl dL_type_19 ⟨_, _, _, _, rfl, rfl, h⟩
abbrev rm_L_listFault : Room := { frames := 7, cells := 1, slots := 6, locals := 154 }
set_option maxHeartbeats 8000000 in
set_option maxRecDepth 100000 in
theorem c_L_listFault (l : Launch) (hl : l.stackTraces = false) (g : gT) (D : va_G) (cy : Nat → ClassId) (q_p0 q_p0_text q_p0_reader q_p0_now q_p0_scores q_p0_trial q_p0_listing q_p0_kept q_p0_reader_ranges q_p0_reader_names q_p0_reader_weights q_p0_reader_keys q_p0_text_bytes q_p2 : Nat) {p0_keptCount : Int32} {p0_stale : Int32} {p0_reader_at : Int32} {p0_reader_number : Int32} {p0_reader_key : Int64} {p0_reader_keyNames : Int32} {p0_reader_entries : Int32} {p0_reader_size : Int32} {p0_text_length : Int32} {p0_text_bytes : Nat → Int32} {p0_reader_ranges : Nat → Int64} {p0_reader_names : Nat → Int32} {p0_reader_weights : Nat → Int32} {p2 : Nat → Int64} {x1 : Int32} {N : Nat} {Q : Int32 → Int32 → Int32 → Int64 → Int32 → Int32 → (Nat → Int64) → (Nat → Int32) → (Nat → Int32) → (Nat → Int64) → Prop} (h : p_L_listFault N p0_keptCount p0_stale p0_reader_at p0_reader_number p0_reader_key p0_reader_keyNames p0_reader_entries p0_reader_size p0_text_length p0_text_bytes p0_reader_ranges p0_reader_names p0_reader_weights p2 x1 Q) : UW l yL_listFault cL_listFault 4 (some .int) [(0, 9, 12, 20)] rm_L_listFault g D cy [.ref q_p0, .int x1, .ref q_p2] [(q_p0, .inr (5, [.ref q_p0_text, .ref q_p0_reader, .ref q_p0_now, .ref q_p0_scores, .ref q_p0_trial, .ref q_p0_listing, .ref q_p0_kept, .int p0_keptCount, .int p0_stale])), (q_p0_reader, .inr (1, [.ref q_p0_text, .int p0_reader_at, .int p0_reader_number, .long p0_reader_key, .int p0_reader_keyNames, .ref q_p0_reader_ranges, .ref q_p0_reader_names, .ref q_p0_reader_weights, .int p0_reader_entries, .ref q_p0_reader_keys, .int p0_reader_size])), (q_p0_text, .inr (4, [.ref q_p0_text_bytes, .int p0_text_length])), (q_p0_text_bytes, .inl (cy 2, 120, .inl p0_text_bytes)), (q_p0_reader_ranges, .inl (cy 1, 10, .inr (.inl p0_reader_ranges))), (q_p0_reader_names, .inl (cy 0, 10, .inl p0_reader_names)), (q_p0_reader_weights, .inl (cy 0, 10, .inl p0_reader_weights)), (q_p2, .inl (cy 1, 1, .inr (.inl p2)))] (fun v w => ∃ (r : Int32) (p0_reader_at' : Int32) (p0_reader_number' : Int32) (p0_reader_key' : Int64) (p0_reader_keyNames' : Int32) (p0_reader_entries' : Int32) (p0_reader_ranges' : Nat → Int64) (p0_reader_names' : Nat → Int32) (p0_reader_weights' : Nat → Int32) (p2' : Nat → Int64), v = some (.int r) ∧ w = [(q_p0, .inr (5, [.ref q_p0_text, .ref q_p0_reader, .ref q_p0_now, .ref q_p0_scores, .ref q_p0_trial, .ref q_p0_listing, .ref q_p0_kept, .int p0_keptCount, .int p0_stale])), (q_p0_reader, .inr (1, [.ref q_p0_text, .int p0_reader_at', .int p0_reader_number', .long p0_reader_key', .int p0_reader_keyNames', .ref q_p0_reader_ranges, .ref q_p0_reader_names, .ref q_p0_reader_weights, .int p0_reader_entries', .ref q_p0_reader_keys, .int p0_reader_size])), (q_p0_text, .inr (4, [.ref q_p0_text_bytes, .int p0_text_length])), (q_p0_text_bytes, .inl (cy 2, 120, .inl p0_text_bytes)), (q_p0_reader_ranges, .inl (cy 1, 10, .inr (.inl p0_reader_ranges'))), (q_p0_reader_names, .inl (cy 0, 10, .inl p0_reader_names')), (q_p0_reader_weights, .inl (cy 0, 10, .inl p0_reader_weights')), (q_p2, .inl (cy 1, 1, .inr (.inl p2')))] ∧ Q r p0_reader_at' p0_reader_number' p0_reader_key' p0_reader_keyNames' p0_reader_entries' p0_reader_ranges' p0_reader_names' p0_reader_weights' p2') := by
  refine UW_of (by decide +kernel) (Nat.le_of_ble_eq_true rfl) [(0, .ref q_p0), (1, .int x1), (2, .ref q_p2)] rfl (fun p e s m args below meth c A cx htb => ?_)
  unfold p_L_listFault at h
  refine v_aload_n cx dL_listFault_0 rfl 2 rfl ?_
  refine v_iconst (v := 0) cx dL_listFault_1 (by decide) ?_
  refine v_aload_n cx dL_listFault_2 rfl 0 rfl ?_
  refine v_iload_n cx dL_listFault_3 rfl 1 rfl ?_
  refine v_callVX (As := [.int x1]) cx (c_X5_listFault l hl g D cy q_p0 q_p0_text q_p0_reader q_p0_now q_p0_scores q_p0_trial q_p0_listing q_p0_kept q_p0_reader_ranges q_p0_reader_names q_p0_reader_weights q_p0_reader_keys q_p0_text_bytes h) k_L_17 (by decide) (by decide) rfl rfl (Nat.le_of_ble_eq_true rfl) dL_listFault_4 [0, 1, 2, 3, 4, 5, 6] [7] (by decide) rfl rfl rfl (q0 := 0) rfl rfl (fun E9 w9 hp => ?_) (fun v9 w9 hp => ?_)
  · obtain ⟨hE, hp⟩ := hp
    refine Exists.elim hp fun u_2 hp => Exists.elim hp fun u_3 hp => Exists.elim hp fun u_4 hp => Exists.elim hp fun u_5 hp => Exists.elim hp fun u_6 hp => Exists.elim hp fun u_7 hp => Exists.elim hp fun u_8 hp => Exists.elim hp fun u_9 hp => ?_
    obtain ⟨rfl, h⟩ := hp
    refine v_permJ (ws' := [(q_p0, .inr (5, [.ref q_p0_text, .ref q_p0_reader, .ref q_p0_now, .ref q_p0_scores, .ref q_p0_trial, .ref q_p0_listing, .ref q_p0_kept, .int p0_keptCount, .int p0_stale])), (q_p0_reader, .inr (1, [.ref q_p0_text, .int u_2, .int u_3, .long u_4, .int u_5, .ref q_p0_reader_ranges, .ref q_p0_reader_names, .ref q_p0_reader_weights, .int u_6, .ref q_p0_reader_keys, .int p0_reader_size])), (q_p0_text, .inr (4, [.ref q_p0_text_bytes, .int p0_text_length])), (q_p0_text_bytes, .inl (cy 2, 120, .inl p0_text_bytes)), (q_p0_reader_ranges, .inl (cy 1, 10, .inr (.inl u_7))), (q_p0_reader_names, .inl (cy 0, 10, .inl u_8)), (q_p0_reader_weights, .inl (cy 0, 10, .inl u_9)), (q_p2, .inl (cy 1, 1, .inr (.inl p2)))]) (ce := 1) (sl := 6) 8 [8, 9, 10, 11, 12, 13, 14, 7] (by decide +kernel) (by decide +kernel) rfl ⟨rfl, rfl⟩ ?_
    have h0 := h
    rcases hE with rfl
    · have h := h0 rfl
      refine v_catch cx htb [] (0, 9, 12, 20) [] rfl (fun _ h => nomatch h) (by decide) (by decide) wCL_L_20 (by decide +kernel) (fun q9 => ?_)
      refine v_astore_n (lv' := [(3, .ref q9), (0, .ref q_p0), (1, .int x1), (2, .ref q_p2)]) cx dL_listFault_12 rfl (by decide) rfl ?_
      refine v_iconst (v := 1) cx dL_listFault_13 (by decide) ?_
      exact v_ireturn cx rfl dL_listFault_14 ⟨_, _, _, _, _, _, _, _, _, _, rfl, rfl, h⟩
  · refine Exists.elim hp fun r_1 hp => Exists.elim hp fun u_2 hp => Exists.elim hp fun u_3 hp => Exists.elim hp fun u_4 hp => Exists.elim hp fun u_5 hp => Exists.elim hp fun u_6 hp => Exists.elim hp fun u_7 hp => Exists.elim hp fun u_8 hp => Exists.elim hp fun u_9 hp => ?_
    obtain ⟨rfl, rfl, h⟩ := hp
    refine v_afterJ (ws' := [(q_p0, .inr (5, [.ref q_p0_text, .ref q_p0_reader, .ref q_p0_now, .ref q_p0_scores, .ref q_p0_trial, .ref q_p0_listing, .ref q_p0_kept, .int p0_keptCount, .int p0_stale])), (q_p0_reader, .inr (1, [.ref q_p0_text, .int u_2, .int u_3, .long u_4, .int u_5, .ref q_p0_reader_ranges, .ref q_p0_reader_names, .ref q_p0_reader_weights, .int u_6, .ref q_p0_reader_keys, .int p0_reader_size])), (q_p0_text, .inr (4, [.ref q_p0_text_bytes, .int p0_text_length])), (q_p0_text_bytes, .inl (cy 2, 120, .inl p0_text_bytes)), (q_p0_reader_ranges, .inl (cy 1, 10, .inr (.inl u_7))), (q_p0_reader_names, .inl (cy 0, 10, .inl u_8)), (q_p0_reader_weights, .inl (cy 0, 10, .inl u_9)), (q_p2, .inl (cy 1, 1, .inr (.inl p2)))]) (st' := [.int r_1, .int 0, .ref q_p2]) (ce := 1) (sl := 6) 8 [8, 9, 10, 11, 12, 13, 14, 7] (by decide +kernel) (by decide +kernel) rfl rfl ⟨rfl, rfl⟩ ?_
    refine v_i2l cx dL_listFault_7 ?_
    refine v_last (ws' := [(q_p0, .inr (5, [.ref q_p0_text, .ref q_p0_reader, .ref q_p0_now, .ref q_p0_scores, .ref q_p0_trial, .ref q_p0_listing, .ref q_p0_kept, .int p0_keptCount, .int p0_stale])), (q_p0_reader, .inr (1, [.ref q_p0_text, .int u_2, .int u_3, .long u_4, .int u_5, .ref q_p0_reader_ranges, .ref q_p0_reader_names, .ref q_p0_reader_weights, .int u_6, .ref q_p0_reader_keys, .int p0_reader_size])), (q_p0_text, .inr (4, [.ref q_p0_text_bytes, .int p0_text_length])), (q_p0_text_bytes, .inl (cy 2, 120, .inl p0_text_bytes)), (q_p0_reader_ranges, .inl (cy 1, 10, .inr (.inl u_7))), (q_p0_reader_names, .inl (cy 0, 10, .inl u_8)), (q_p0_reader_weights, .inl (cy 0, 10, .inl u_9)), (q_p2, .inl (cy 1, 1, .inr (.inl (vp_updL p2 ((0 : Int32).toNatClampNeg) r_1.toInt64))))]) cx dL_listFault_8 7 rfl ⟨by unfold vp_in; decide, h⟩ rfl (fun h => ?_)
    refine v_goto (tgt := 15) cx dL_listFault_9 (by decide) ?_
    refine v_iconst (v := 0) cx dL_listFault_15 (by decide) ?_
    exact v_ireturn cx rfl dL_listFault_16 ⟨_, _, _, _, _, _, _, _, _, _, rfl, rfl, h⟩
abbrev rm_L_takeList : Room := { frames := 7, cells := 1, slots := 6, locals := 156 }
set_option maxHeartbeats 8000000 in
set_option maxRecDepth 100000 in
theorem c_L_takeList (l : Launch) (hl : l.stackTraces = false) (g : gT) (D : va_G) (cy : Nat → ClassId) (q_p0 q_p0_text q_p0_reader q_p0_now q_p0_scores q_p0_trial q_p0_listing q_p0_kept q_p0_reader_ranges q_p0_reader_names q_p0_reader_weights q_p0_reader_keys q_p0_text_bytes q_p0_kept0 q_p0_kept1 q_p0_kept2 q_p0_kept3 q_p0_kept0_keys q_p0_kept0_sizes q_p0_kept0_qualities q_p0_kept0_lengths q_p0_kept0_ranges q_p0_kept0_names q_p0_kept0_weights q_p0_kept0_ties q_p0_now_keys q_p0_now_sizes q_p0_now_qualities q_p0_now_lengths q_p0_now_ranges q_p0_now_names q_p0_now_weights q_p0_now_ties q_p0_kept1_keys q_p0_kept1_sizes q_p0_kept1_qualities q_p0_kept1_lengths q_p0_kept1_ranges q_p0_kept1_names q_p0_kept1_weights q_p0_kept1_ties q_p0_kept2_keys q_p0_kept2_sizes q_p0_kept2_qualities q_p0_kept2_lengths q_p0_kept2_ranges q_p0_kept2_names q_p0_kept2_weights q_p0_kept2_ties q_p0_kept3_keys q_p0_kept3_sizes q_p0_kept3_qualities q_p0_kept3_lengths q_p0_kept3_ranges q_p0_kept3_names q_p0_kept3_weights q_p0_kept3_ties q_p3 : Nat) {p0_keptCount : Int32} {p0_stale : Int32} {p0_reader_at : Int32} {p0_reader_number : Int32} {p0_reader_key : Int64} {p0_reader_keyNames : Int32} {p0_reader_entries : Int32} {p0_reader_size : Int32} {p0_text_length : Int32} {p0_text_bytes : Nat → Int32} {p0_reader_ranges : Nat → Int64} {p0_reader_names : Nat → Int32} {p0_reader_weights : Nat → Int32} {p0_kept0_variants : Int32} {p0_kept0_keys : Nat → Int64} {p0_kept0_sizes : Nat → Int32} {p0_kept0_qualities : Nat → Int32} {p0_kept0_lengths : Nat → Int32} {p0_kept0_ranges : Nat → Int64} {p0_kept0_names : Nat → Int32} {p0_kept0_weights : Nat → Int32} {p0_kept0_ties : Nat → Int32} {p0_now_variants : Int32} {p0_now_keys : Nat → Int64} {p0_now_sizes : Nat → Int32} {p0_now_qualities : Nat → Int32} {p0_now_lengths : Nat → Int32} {p0_now_ranges : Nat → Int64} {p0_now_names : Nat → Int32} {p0_now_weights : Nat → Int32} {p0_now_ties : Nat → Int32} {p0_kept1_variants : Int32} {p0_kept1_keys : Nat → Int64} {p0_kept1_sizes : Nat → Int32} {p0_kept1_qualities : Nat → Int32} {p0_kept1_lengths : Nat → Int32} {p0_kept1_ranges : Nat → Int64} {p0_kept1_names : Nat → Int32} {p0_kept1_weights : Nat → Int32} {p0_kept1_ties : Nat → Int32} {p0_kept2_variants : Int32} {p0_kept2_keys : Nat → Int64} {p0_kept2_sizes : Nat → Int32} {p0_kept2_qualities : Nat → Int32} {p0_kept2_lengths : Nat → Int32} {p0_kept2_ranges : Nat → Int64} {p0_kept2_names : Nat → Int32} {p0_kept2_weights : Nat → Int32} {p0_kept2_ties : Nat → Int32} {p0_kept3_variants : Int32} {p0_kept3_keys : Nat → Int64} {p0_kept3_sizes : Nat → Int32} {p0_kept3_qualities : Nat → Int32} {p0_kept3_lengths : Nat → Int32} {p0_kept3_ranges : Nat → Int64} {p0_kept3_names : Nat → Int32} {p0_kept3_weights : Nat → Int32} {p0_kept3_ties : Nat → Int32} {p3 : Nat → Int64} {x1 : Int32} {x2 : Int32} {N : Nat} {Q : Int32 → Int32 → Int32 → Int32 → Int32 → Int64 → Int32 → Int32 → (Nat → Int64) → (Nat → Int32) → (Nat → Int32) → Int32 → (Nat → Int64) → (Nat → Int32) → (Nat → Int32) → (Nat → Int32) → (Nat → Int64) → (Nat → Int32) → (Nat → Int32) → (Nat → Int32) → (Nat → Int32) → (Nat → Int64) → (Nat → Int32) → (Nat → Int32) → Int32 → (Nat → Int64) → (Nat → Int32) → (Nat → Int32) → (Nat → Int32) → (Nat → Int64) → (Nat → Int32) → (Nat → Int32) → (Nat → Int32) → Int32 → (Nat → Int64) → (Nat → Int32) → (Nat → Int32) → (Nat → Int32) → (Nat → Int64) → (Nat → Int32) → (Nat → Int32) → (Nat → Int32) → Int32 → (Nat → Int64) → (Nat → Int32) → (Nat → Int32) → (Nat → Int32) → (Nat → Int64) → (Nat → Int32) → (Nat → Int32) → (Nat → Int32) → (Nat → Int64) → Prop} (h : p_L_takeList N p0_keptCount p0_stale p0_reader_at p0_reader_number p0_reader_key p0_reader_keyNames p0_reader_entries p0_reader_size p0_text_length p0_text_bytes p0_reader_ranges p0_reader_names p0_reader_weights p0_kept0_variants p0_kept0_keys p0_kept0_sizes p0_kept0_qualities p0_kept0_lengths p0_kept0_ranges p0_kept0_names p0_kept0_weights p0_kept0_ties p0_now_variants p0_now_keys p0_now_sizes p0_now_qualities p0_now_lengths p0_now_ranges p0_now_names p0_now_weights p0_now_ties p0_kept1_variants p0_kept1_keys p0_kept1_sizes p0_kept1_qualities p0_kept1_lengths p0_kept1_ranges p0_kept1_names p0_kept1_weights p0_kept1_ties p0_kept2_variants p0_kept2_keys p0_kept2_sizes p0_kept2_qualities p0_kept2_lengths p0_kept2_ranges p0_kept2_names p0_kept2_weights p0_kept2_ties p0_kept3_variants p0_kept3_keys p0_kept3_sizes p0_kept3_qualities p0_kept3_lengths p0_kept3_ranges p0_kept3_names p0_kept3_weights p0_kept3_ties p3 x1 x2 Q) : UW l yL_takeList cL_takeList 5 (some .int) [(0, 10, 13, 20)] rm_L_takeList g D cy [.ref q_p0, .int x1, .int x2, .ref q_p3] [(q_p0, .inr (5, [.ref q_p0_text, .ref q_p0_reader, .ref q_p0_now, .ref q_p0_scores, .ref q_p0_trial, .ref q_p0_listing, .ref q_p0_kept, .int p0_keptCount, .int p0_stale])), (q_p0_reader, .inr (1, [.ref q_p0_text, .int p0_reader_at, .int p0_reader_number, .long p0_reader_key, .int p0_reader_keyNames, .ref q_p0_reader_ranges, .ref q_p0_reader_names, .ref q_p0_reader_weights, .int p0_reader_entries, .ref q_p0_reader_keys, .int p0_reader_size])), (q_p0_text, .inr (4, [.ref q_p0_text_bytes, .int p0_text_length])), (q_p0_text_bytes, .inl (cy 2, 120, .inl p0_text_bytes)), (q_p0_reader_ranges, .inl (cy 1, 10, .inr (.inl p0_reader_ranges))), (q_p0_reader_names, .inl (cy 0, 10, .inl p0_reader_names)), (q_p0_reader_weights, .inl (cy 0, 10, .inl p0_reader_weights)), (q_p0_kept, .inl (cy 4, 4, .inr (.inr (.inr (.inr (ga4 q_p0_kept0 q_p0_kept1 q_p0_kept2 q_p0_kept3)))))), (q_p0_kept0, .inr (3, [.int p0_kept0_variants, .ref q_p0_kept0_keys, .ref q_p0_kept0_sizes, .ref q_p0_kept0_qualities, .ref q_p0_kept0_lengths, .ref q_p0_kept0_ranges, .ref q_p0_kept0_names, .ref q_p0_kept0_weights, .ref q_p0_kept0_ties])), (q_p0_kept0_keys, .inl (cy 1, 48, .inr (.inl p0_kept0_keys))), (q_p0_kept0_sizes, .inl (cy 0, 16, .inl p0_kept0_sizes)), (q_p0_kept0_qualities, .inl (cy 0, 16, .inl p0_kept0_qualities)), (q_p0_kept0_lengths, .inl (cy 0, 6, .inl p0_kept0_lengths)), (q_p0_kept0_ranges, .inl (cy 1, 60, .inr (.inl p0_kept0_ranges))), (q_p0_kept0_names, .inl (cy 0, 60, .inl p0_kept0_names)), (q_p0_kept0_weights, .inl (cy 0, 60, .inl p0_kept0_weights)), (q_p0_kept0_ties, .inl (cy 0, 3, .inl p0_kept0_ties)), (q_p0_now, .inr (3, [.int p0_now_variants, .ref q_p0_now_keys, .ref q_p0_now_sizes, .ref q_p0_now_qualities, .ref q_p0_now_lengths, .ref q_p0_now_ranges, .ref q_p0_now_names, .ref q_p0_now_weights, .ref q_p0_now_ties])), (q_p0_now_keys, .inl (cy 1, 48, .inr (.inl p0_now_keys))), (q_p0_now_sizes, .inl (cy 0, 16, .inl p0_now_sizes)), (q_p0_now_qualities, .inl (cy 0, 16, .inl p0_now_qualities)), (q_p0_now_lengths, .inl (cy 0, 6, .inl p0_now_lengths)), (q_p0_now_ranges, .inl (cy 1, 60, .inr (.inl p0_now_ranges))), (q_p0_now_names, .inl (cy 0, 60, .inl p0_now_names)), (q_p0_now_weights, .inl (cy 0, 60, .inl p0_now_weights)), (q_p0_now_ties, .inl (cy 0, 3, .inl p0_now_ties)), (q_p0_kept1, .inr (3, [.int p0_kept1_variants, .ref q_p0_kept1_keys, .ref q_p0_kept1_sizes, .ref q_p0_kept1_qualities, .ref q_p0_kept1_lengths, .ref q_p0_kept1_ranges, .ref q_p0_kept1_names, .ref q_p0_kept1_weights, .ref q_p0_kept1_ties])), (q_p0_kept1_keys, .inl (cy 1, 48, .inr (.inl p0_kept1_keys))), (q_p0_kept1_sizes, .inl (cy 0, 16, .inl p0_kept1_sizes)), (q_p0_kept1_qualities, .inl (cy 0, 16, .inl p0_kept1_qualities)), (q_p0_kept1_lengths, .inl (cy 0, 6, .inl p0_kept1_lengths)), (q_p0_kept1_ranges, .inl (cy 1, 60, .inr (.inl p0_kept1_ranges))), (q_p0_kept1_names, .inl (cy 0, 60, .inl p0_kept1_names)), (q_p0_kept1_weights, .inl (cy 0, 60, .inl p0_kept1_weights)), (q_p0_kept1_ties, .inl (cy 0, 3, .inl p0_kept1_ties)), (q_p0_kept2, .inr (3, [.int p0_kept2_variants, .ref q_p0_kept2_keys, .ref q_p0_kept2_sizes, .ref q_p0_kept2_qualities, .ref q_p0_kept2_lengths, .ref q_p0_kept2_ranges, .ref q_p0_kept2_names, .ref q_p0_kept2_weights, .ref q_p0_kept2_ties])), (q_p0_kept2_keys, .inl (cy 1, 48, .inr (.inl p0_kept2_keys))), (q_p0_kept2_sizes, .inl (cy 0, 16, .inl p0_kept2_sizes)), (q_p0_kept2_qualities, .inl (cy 0, 16, .inl p0_kept2_qualities)), (q_p0_kept2_lengths, .inl (cy 0, 6, .inl p0_kept2_lengths)), (q_p0_kept2_ranges, .inl (cy 1, 60, .inr (.inl p0_kept2_ranges))), (q_p0_kept2_names, .inl (cy 0, 60, .inl p0_kept2_names)), (q_p0_kept2_weights, .inl (cy 0, 60, .inl p0_kept2_weights)), (q_p0_kept2_ties, .inl (cy 0, 3, .inl p0_kept2_ties)), (q_p0_kept3, .inr (3, [.int p0_kept3_variants, .ref q_p0_kept3_keys, .ref q_p0_kept3_sizes, .ref q_p0_kept3_qualities, .ref q_p0_kept3_lengths, .ref q_p0_kept3_ranges, .ref q_p0_kept3_names, .ref q_p0_kept3_weights, .ref q_p0_kept3_ties])), (q_p0_kept3_keys, .inl (cy 1, 48, .inr (.inl p0_kept3_keys))), (q_p0_kept3_sizes, .inl (cy 0, 16, .inl p0_kept3_sizes)), (q_p0_kept3_qualities, .inl (cy 0, 16, .inl p0_kept3_qualities)), (q_p0_kept3_lengths, .inl (cy 0, 6, .inl p0_kept3_lengths)), (q_p0_kept3_ranges, .inl (cy 1, 60, .inr (.inl p0_kept3_ranges))), (q_p0_kept3_names, .inl (cy 0, 60, .inl p0_kept3_names)), (q_p0_kept3_weights, .inl (cy 0, 60, .inl p0_kept3_weights)), (q_p0_kept3_ties, .inl (cy 0, 3, .inl p0_kept3_ties)), (q_p3, .inl (cy 1, 1, .inr (.inl p3)))] (fun v w => ∃ (r : Int32) (p0_keptCount' : Int32) (p0_stale' : Int32) (p0_reader_at' : Int32) (p0_reader_number' : Int32) (p0_reader_key' : Int64) (p0_reader_keyNames' : Int32) (p0_reader_entries' : Int32) (p0_reader_ranges' : Nat → Int64) (p0_reader_names' : Nat → Int32) (p0_reader_weights' : Nat → Int32) (p0_kept0_variants' : Int32) (p0_kept0_keys' : Nat → Int64) (p0_kept0_sizes' : Nat → Int32) (p0_kept0_qualities' : Nat → Int32) (p0_kept0_lengths' : Nat → Int32) (p0_kept0_ranges' : Nat → Int64) (p0_kept0_names' : Nat → Int32) (p0_kept0_weights' : Nat → Int32) (p0_kept0_ties' : Nat → Int32) (p0_now_lengths' : Nat → Int32) (p0_now_ranges' : Nat → Int64) (p0_now_names' : Nat → Int32) (p0_now_weights' : Nat → Int32) (p0_kept1_variants' : Int32) (p0_kept1_keys' : Nat → Int64) (p0_kept1_sizes' : Nat → Int32) (p0_kept1_qualities' : Nat → Int32) (p0_kept1_lengths' : Nat → Int32) (p0_kept1_ranges' : Nat → Int64) (p0_kept1_names' : Nat → Int32) (p0_kept1_weights' : Nat → Int32) (p0_kept1_ties' : Nat → Int32) (p0_kept2_variants' : Int32) (p0_kept2_keys' : Nat → Int64) (p0_kept2_sizes' : Nat → Int32) (p0_kept2_qualities' : Nat → Int32) (p0_kept2_lengths' : Nat → Int32) (p0_kept2_ranges' : Nat → Int64) (p0_kept2_names' : Nat → Int32) (p0_kept2_weights' : Nat → Int32) (p0_kept2_ties' : Nat → Int32) (p0_kept3_variants' : Int32) (p0_kept3_keys' : Nat → Int64) (p0_kept3_sizes' : Nat → Int32) (p0_kept3_qualities' : Nat → Int32) (p0_kept3_lengths' : Nat → Int32) (p0_kept3_ranges' : Nat → Int64) (p0_kept3_names' : Nat → Int32) (p0_kept3_weights' : Nat → Int32) (p0_kept3_ties' : Nat → Int32) (p3' : Nat → Int64) (q_p0_kept0' : Nat) (q_p0_kept1' : Nat) (q_p0_kept2' : Nat) (q_p0_kept3' : Nat) (q_p0_kept0_keys' : Nat) (q_p0_kept0_sizes' : Nat) (q_p0_kept0_qualities' : Nat) (q_p0_kept0_lengths' : Nat) (q_p0_kept0_ranges' : Nat) (q_p0_kept0_names' : Nat) (q_p0_kept0_weights' : Nat) (q_p0_kept0_ties' : Nat) (q_p0_kept1_keys' : Nat) (q_p0_kept1_sizes' : Nat) (q_p0_kept1_qualities' : Nat) (q_p0_kept1_lengths' : Nat) (q_p0_kept1_ranges' : Nat) (q_p0_kept1_names' : Nat) (q_p0_kept1_weights' : Nat) (q_p0_kept1_ties' : Nat) (q_p0_kept2_keys' : Nat) (q_p0_kept2_sizes' : Nat) (q_p0_kept2_qualities' : Nat) (q_p0_kept2_lengths' : Nat) (q_p0_kept2_ranges' : Nat) (q_p0_kept2_names' : Nat) (q_p0_kept2_weights' : Nat) (q_p0_kept2_ties' : Nat) (q_p0_kept3_keys' : Nat) (q_p0_kept3_sizes' : Nat) (q_p0_kept3_qualities' : Nat) (q_p0_kept3_lengths' : Nat) (q_p0_kept3_ranges' : Nat) (q_p0_kept3_names' : Nat) (q_p0_kept3_weights' : Nat) (q_p0_kept3_ties' : Nat), v = some (.int r) ∧ w = [(q_p0, .inr (5, [.ref q_p0_text, .ref q_p0_reader, .ref q_p0_now, .ref q_p0_scores, .ref q_p0_trial, .ref q_p0_listing, .ref q_p0_kept, .int p0_keptCount', .int p0_stale'])), (q_p0_reader, .inr (1, [.ref q_p0_text, .int p0_reader_at', .int p0_reader_number', .long p0_reader_key', .int p0_reader_keyNames', .ref q_p0_reader_ranges, .ref q_p0_reader_names, .ref q_p0_reader_weights, .int p0_reader_entries', .ref q_p0_reader_keys, .int p0_reader_size])), (q_p0_text, .inr (4, [.ref q_p0_text_bytes, .int p0_text_length])), (q_p0_text_bytes, .inl (cy 2, 120, .inl p0_text_bytes)), (q_p0_reader_ranges, .inl (cy 1, 10, .inr (.inl p0_reader_ranges'))), (q_p0_reader_names, .inl (cy 0, 10, .inl p0_reader_names')), (q_p0_reader_weights, .inl (cy 0, 10, .inl p0_reader_weights')), (q_p0_kept, .inl (cy 4, 4, .inr (.inr (.inr (.inr (ga4 q_p0_kept0' q_p0_kept1' q_p0_kept2' q_p0_kept3')))))), (q_p0_kept0', .inr (3, [.int p0_kept0_variants', .ref q_p0_kept0_keys', .ref q_p0_kept0_sizes', .ref q_p0_kept0_qualities', .ref q_p0_kept0_lengths', .ref q_p0_kept0_ranges', .ref q_p0_kept0_names', .ref q_p0_kept0_weights', .ref q_p0_kept0_ties'])), (q_p0_kept0_keys', .inl (cy 1, 48, .inr (.inl p0_kept0_keys'))), (q_p0_kept0_sizes', .inl (cy 0, 16, .inl p0_kept0_sizes')), (q_p0_kept0_qualities', .inl (cy 0, 16, .inl p0_kept0_qualities')), (q_p0_kept0_lengths', .inl (cy 0, 6, .inl p0_kept0_lengths')), (q_p0_kept0_ranges', .inl (cy 1, 60, .inr (.inl p0_kept0_ranges'))), (q_p0_kept0_names', .inl (cy 0, 60, .inl p0_kept0_names')), (q_p0_kept0_weights', .inl (cy 0, 60, .inl p0_kept0_weights')), (q_p0_kept0_ties', .inl (cy 0, 3, .inl p0_kept0_ties')), (q_p0_now, .inr (3, [.int p0_now_variants, .ref q_p0_now_keys, .ref q_p0_now_sizes, .ref q_p0_now_qualities, .ref q_p0_now_lengths, .ref q_p0_now_ranges, .ref q_p0_now_names, .ref q_p0_now_weights, .ref q_p0_now_ties])), (q_p0_now_keys, .inl (cy 1, 48, .inr (.inl p0_now_keys))), (q_p0_now_sizes, .inl (cy 0, 16, .inl p0_now_sizes)), (q_p0_now_qualities, .inl (cy 0, 16, .inl p0_now_qualities)), (q_p0_now_lengths, .inl (cy 0, 6, .inl p0_now_lengths')), (q_p0_now_ranges, .inl (cy 1, 60, .inr (.inl p0_now_ranges'))), (q_p0_now_names, .inl (cy 0, 60, .inl p0_now_names')), (q_p0_now_weights, .inl (cy 0, 60, .inl p0_now_weights')), (q_p0_now_ties, .inl (cy 0, 3, .inl p0_now_ties)), (q_p0_kept1', .inr (3, [.int p0_kept1_variants', .ref q_p0_kept1_keys', .ref q_p0_kept1_sizes', .ref q_p0_kept1_qualities', .ref q_p0_kept1_lengths', .ref q_p0_kept1_ranges', .ref q_p0_kept1_names', .ref q_p0_kept1_weights', .ref q_p0_kept1_ties'])), (q_p0_kept1_keys', .inl (cy 1, 48, .inr (.inl p0_kept1_keys'))), (q_p0_kept1_sizes', .inl (cy 0, 16, .inl p0_kept1_sizes')), (q_p0_kept1_qualities', .inl (cy 0, 16, .inl p0_kept1_qualities')), (q_p0_kept1_lengths', .inl (cy 0, 6, .inl p0_kept1_lengths')), (q_p0_kept1_ranges', .inl (cy 1, 60, .inr (.inl p0_kept1_ranges'))), (q_p0_kept1_names', .inl (cy 0, 60, .inl p0_kept1_names')), (q_p0_kept1_weights', .inl (cy 0, 60, .inl p0_kept1_weights')), (q_p0_kept1_ties', .inl (cy 0, 3, .inl p0_kept1_ties')), (q_p0_kept2', .inr (3, [.int p0_kept2_variants', .ref q_p0_kept2_keys', .ref q_p0_kept2_sizes', .ref q_p0_kept2_qualities', .ref q_p0_kept2_lengths', .ref q_p0_kept2_ranges', .ref q_p0_kept2_names', .ref q_p0_kept2_weights', .ref q_p0_kept2_ties'])), (q_p0_kept2_keys', .inl (cy 1, 48, .inr (.inl p0_kept2_keys'))), (q_p0_kept2_sizes', .inl (cy 0, 16, .inl p0_kept2_sizes')), (q_p0_kept2_qualities', .inl (cy 0, 16, .inl p0_kept2_qualities')), (q_p0_kept2_lengths', .inl (cy 0, 6, .inl p0_kept2_lengths')), (q_p0_kept2_ranges', .inl (cy 1, 60, .inr (.inl p0_kept2_ranges'))), (q_p0_kept2_names', .inl (cy 0, 60, .inl p0_kept2_names')), (q_p0_kept2_weights', .inl (cy 0, 60, .inl p0_kept2_weights')), (q_p0_kept2_ties', .inl (cy 0, 3, .inl p0_kept2_ties')), (q_p0_kept3', .inr (3, [.int p0_kept3_variants', .ref q_p0_kept3_keys', .ref q_p0_kept3_sizes', .ref q_p0_kept3_qualities', .ref q_p0_kept3_lengths', .ref q_p0_kept3_ranges', .ref q_p0_kept3_names', .ref q_p0_kept3_weights', .ref q_p0_kept3_ties'])), (q_p0_kept3_keys', .inl (cy 1, 48, .inr (.inl p0_kept3_keys'))), (q_p0_kept3_sizes', .inl (cy 0, 16, .inl p0_kept3_sizes')), (q_p0_kept3_qualities', .inl (cy 0, 16, .inl p0_kept3_qualities')), (q_p0_kept3_lengths', .inl (cy 0, 6, .inl p0_kept3_lengths')), (q_p0_kept3_ranges', .inl (cy 1, 60, .inr (.inl p0_kept3_ranges'))), (q_p0_kept3_names', .inl (cy 0, 60, .inl p0_kept3_names')), (q_p0_kept3_weights', .inl (cy 0, 60, .inl p0_kept3_weights')), (q_p0_kept3_ties', .inl (cy 0, 3, .inl p0_kept3_ties')), (q_p3, .inl (cy 1, 1, .inr (.inl p3')))] ∧ Q r p0_keptCount' p0_stale' p0_reader_at' p0_reader_number' p0_reader_key' p0_reader_keyNames' p0_reader_entries' p0_reader_ranges' p0_reader_names' p0_reader_weights' p0_kept0_variants' p0_kept0_keys' p0_kept0_sizes' p0_kept0_qualities' p0_kept0_lengths' p0_kept0_ranges' p0_kept0_names' p0_kept0_weights' p0_kept0_ties' p0_now_lengths' p0_now_ranges' p0_now_names' p0_now_weights' p0_kept1_variants' p0_kept1_keys' p0_kept1_sizes' p0_kept1_qualities' p0_kept1_lengths' p0_kept1_ranges' p0_kept1_names' p0_kept1_weights' p0_kept1_ties' p0_kept2_variants' p0_kept2_keys' p0_kept2_sizes' p0_kept2_qualities' p0_kept2_lengths' p0_kept2_ranges' p0_kept2_names' p0_kept2_weights' p0_kept2_ties' p0_kept3_variants' p0_kept3_keys' p0_kept3_sizes' p0_kept3_qualities' p0_kept3_lengths' p0_kept3_ranges' p0_kept3_names' p0_kept3_weights' p0_kept3_ties' p3') := by
  refine UW_of (by decide +kernel) (Nat.le_of_ble_eq_true rfl) [(0, .ref q_p0), (1, .int x1), (2, .int x2), (3, .ref q_p3)] rfl (fun p e s m args below meth c A cx htb => ?_)
  unfold p_L_takeList at h
  refine v_aload_n cx dL_takeList_0 rfl 3 rfl ?_
  refine v_iconst (v := 0) cx dL_takeList_1 (by decide) ?_
  refine v_aload_n cx dL_takeList_2 rfl 0 rfl ?_
  refine v_iload_n cx dL_takeList_3 rfl 1 rfl ?_
  refine v_iload_n cx dL_takeList_4 rfl 2 rfl ?_
  refine v_callVX (As := [.int x1, .int x2]) cx (c_X5_takeList l hl g D cy q_p0 q_p0_text q_p0_reader q_p0_now q_p0_scores q_p0_trial q_p0_listing q_p0_kept q_p0_reader_ranges q_p0_reader_names q_p0_reader_weights q_p0_reader_keys q_p0_text_bytes q_p0_kept0 q_p0_kept1 q_p0_kept2 q_p0_kept3 q_p0_kept0_keys q_p0_kept0_sizes q_p0_kept0_qualities q_p0_kept0_lengths q_p0_kept0_ranges q_p0_kept0_names q_p0_kept0_weights q_p0_kept0_ties q_p0_now_keys q_p0_now_sizes q_p0_now_qualities q_p0_now_lengths q_p0_now_ranges q_p0_now_names q_p0_now_weights q_p0_now_ties q_p0_kept1_keys q_p0_kept1_sizes q_p0_kept1_qualities q_p0_kept1_lengths q_p0_kept1_ranges q_p0_kept1_names q_p0_kept1_weights q_p0_kept1_ties q_p0_kept2_keys q_p0_kept2_sizes q_p0_kept2_qualities q_p0_kept2_lengths q_p0_kept2_ranges q_p0_kept2_names q_p0_kept2_weights q_p0_kept2_ties q_p0_kept3_keys q_p0_kept3_sizes q_p0_kept3_qualities q_p0_kept3_lengths q_p0_kept3_ranges q_p0_kept3_names q_p0_kept3_weights q_p0_kept3_ties h) k_L_22 (by decide) (by decide) rfl rfl (Nat.le_of_ble_eq_true rfl) dL_takeList_5 [0, 1, 2, 3, 4, 5, 6, 7, 8, 9, 10, 11, 12, 13, 14, 15, 16, 17, 18, 19, 20, 21, 22, 23, 24, 25, 26, 27, 28, 29, 30, 31, 32, 33, 34, 35, 36, 37, 38, 39, 40, 41, 42, 43, 44, 45, 46, 47, 48, 49, 50, 51, 52] [53] (by decide) rfl rfl rfl (q0 := 0) rfl rfl (fun E9 w9 hp => ?_) (fun v9 w9 hp => ?_)
  · obtain ⟨hE, hp⟩ := hp
    refine Exists.elim hp fun u_38 hp => Exists.elim hp fun u_39 hp => Exists.elim hp fun u_40 hp => Exists.elim hp fun u_41 hp => Exists.elim hp fun u_42 hp => Exists.elim hp fun u_43 hp => Exists.elim hp fun u_44 hp => Exists.elim hp fun u_45 hp => Exists.elim hp fun u_46 hp => Exists.elim hp fun u_47 hp => Exists.elim hp fun u_48 hp => Exists.elim hp fun u_49 hp => Exists.elim hp fun u_50 hp => Exists.elim hp fun u_51 hp => Exists.elim hp fun u_52 hp => Exists.elim hp fun u_53 hp => Exists.elim hp fun u_54 hp => Exists.elim hp fun u_55 hp => Exists.elim hp fun u_56 hp => Exists.elim hp fun u_57 hp => Exists.elim hp fun u_58 hp => Exists.elim hp fun u_59 hp => Exists.elim hp fun u_60 hp => Exists.elim hp fun u_61 hp => Exists.elim hp fun u_62 hp => Exists.elim hp fun u_63 hp => Exists.elim hp fun u_64 hp => Exists.elim hp fun u_65 hp => Exists.elim hp fun u_66 hp => Exists.elim hp fun u_67 hp => Exists.elim hp fun u_68 hp => Exists.elim hp fun u_69 hp => Exists.elim hp fun u_70 hp => Exists.elim hp fun u_71 hp => Exists.elim hp fun u_72 hp => Exists.elim hp fun u_73 hp => Exists.elim hp fun u_74 hp => Exists.elim hp fun u_75 hp => Exists.elim hp fun u_76 hp => Exists.elim hp fun u_77 hp => Exists.elim hp fun u_78 hp => Exists.elim hp fun u_79 hp => Exists.elim hp fun u_80 hp => Exists.elim hp fun u_81 hp => Exists.elim hp fun u_82 hp => Exists.elim hp fun u_83 hp => Exists.elim hp fun u_84 hp => Exists.elim hp fun u_85 hp => Exists.elim hp fun u_86 hp => Exists.elim hp fun u_87 hp => Exists.elim hp fun b_2 hp => Exists.elim hp fun b_3 hp => Exists.elim hp fun b_4 hp => Exists.elim hp fun b_5 hp => Exists.elim hp fun b_6 hp => Exists.elim hp fun b_7 hp => Exists.elim hp fun b_8 hp => Exists.elim hp fun b_9 hp => Exists.elim hp fun b_10 hp => Exists.elim hp fun b_11 hp => Exists.elim hp fun b_12 hp => Exists.elim hp fun b_13 hp => Exists.elim hp fun b_14 hp => Exists.elim hp fun b_15 hp => Exists.elim hp fun b_16 hp => Exists.elim hp fun b_17 hp => Exists.elim hp fun b_18 hp => Exists.elim hp fun b_19 hp => Exists.elim hp fun b_20 hp => Exists.elim hp fun b_21 hp => Exists.elim hp fun b_22 hp => Exists.elim hp fun b_23 hp => Exists.elim hp fun b_24 hp => Exists.elim hp fun b_25 hp => Exists.elim hp fun b_26 hp => Exists.elim hp fun b_27 hp => Exists.elim hp fun b_28 hp => Exists.elim hp fun b_29 hp => Exists.elim hp fun b_30 hp => Exists.elim hp fun b_31 hp => Exists.elim hp fun b_32 hp => Exists.elim hp fun b_33 hp => Exists.elim hp fun b_34 hp => Exists.elim hp fun b_35 hp => Exists.elim hp fun b_36 hp => Exists.elim hp fun b_37 hp => ?_
    obtain ⟨rfl, h⟩ := hp
    refine v_permJ (ws' := [(q_p0, .inr (5, [.ref q_p0_text, .ref q_p0_reader, .ref q_p0_now, .ref q_p0_scores, .ref q_p0_trial, .ref q_p0_listing, .ref q_p0_kept, .int u_38, .int u_39])), (q_p0_reader, .inr (1, [.ref q_p0_text, .int u_40, .int u_41, .long u_42, .int u_43, .ref q_p0_reader_ranges, .ref q_p0_reader_names, .ref q_p0_reader_weights, .int u_44, .ref q_p0_reader_keys, .int p0_reader_size])), (q_p0_text, .inr (4, [.ref q_p0_text_bytes, .int p0_text_length])), (q_p0_text_bytes, .inl (cy 2, 120, .inl p0_text_bytes)), (q_p0_reader_ranges, .inl (cy 1, 10, .inr (.inl u_45))), (q_p0_reader_names, .inl (cy 0, 10, .inl u_46)), (q_p0_reader_weights, .inl (cy 0, 10, .inl u_47)), (q_p0_kept, .inl (cy 4, 4, .inr (.inr (.inr (.inr (ga4 b_2 b_3 b_4 b_5)))))), (b_2, .inr (3, [.int u_48, .ref b_6, .ref b_7, .ref b_8, .ref b_9, .ref b_10, .ref b_11, .ref b_12, .ref b_13])), (b_6, .inl (cy 1, 48, .inr (.inl u_49))), (b_7, .inl (cy 0, 16, .inl u_50)), (b_8, .inl (cy 0, 16, .inl u_51)), (b_9, .inl (cy 0, 6, .inl u_52)), (b_10, .inl (cy 1, 60, .inr (.inl u_53))), (b_11, .inl (cy 0, 60, .inl u_54)), (b_12, .inl (cy 0, 60, .inl u_55)), (b_13, .inl (cy 0, 3, .inl u_56)), (q_p0_now, .inr (3, [.int p0_now_variants, .ref q_p0_now_keys, .ref q_p0_now_sizes, .ref q_p0_now_qualities, .ref q_p0_now_lengths, .ref q_p0_now_ranges, .ref q_p0_now_names, .ref q_p0_now_weights, .ref q_p0_now_ties])), (q_p0_now_keys, .inl (cy 1, 48, .inr (.inl p0_now_keys))), (q_p0_now_sizes, .inl (cy 0, 16, .inl p0_now_sizes)), (q_p0_now_qualities, .inl (cy 0, 16, .inl p0_now_qualities)), (q_p0_now_lengths, .inl (cy 0, 6, .inl u_57)), (q_p0_now_ranges, .inl (cy 1, 60, .inr (.inl u_58))), (q_p0_now_names, .inl (cy 0, 60, .inl u_59)), (q_p0_now_weights, .inl (cy 0, 60, .inl u_60)), (q_p0_now_ties, .inl (cy 0, 3, .inl p0_now_ties)), (b_3, .inr (3, [.int u_61, .ref b_14, .ref b_15, .ref b_16, .ref b_17, .ref b_18, .ref b_19, .ref b_20, .ref b_21])), (b_14, .inl (cy 1, 48, .inr (.inl u_62))), (b_15, .inl (cy 0, 16, .inl u_63)), (b_16, .inl (cy 0, 16, .inl u_64)), (b_17, .inl (cy 0, 6, .inl u_65)), (b_18, .inl (cy 1, 60, .inr (.inl u_66))), (b_19, .inl (cy 0, 60, .inl u_67)), (b_20, .inl (cy 0, 60, .inl u_68)), (b_21, .inl (cy 0, 3, .inl u_69)), (b_4, .inr (3, [.int u_70, .ref b_22, .ref b_23, .ref b_24, .ref b_25, .ref b_26, .ref b_27, .ref b_28, .ref b_29])), (b_22, .inl (cy 1, 48, .inr (.inl u_71))), (b_23, .inl (cy 0, 16, .inl u_72)), (b_24, .inl (cy 0, 16, .inl u_73)), (b_25, .inl (cy 0, 6, .inl u_74)), (b_26, .inl (cy 1, 60, .inr (.inl u_75))), (b_27, .inl (cy 0, 60, .inl u_76)), (b_28, .inl (cy 0, 60, .inl u_77)), (b_29, .inl (cy 0, 3, .inl u_78)), (b_5, .inr (3, [.int u_79, .ref b_30, .ref b_31, .ref b_32, .ref b_33, .ref b_34, .ref b_35, .ref b_36, .ref b_37])), (b_30, .inl (cy 1, 48, .inr (.inl u_80))), (b_31, .inl (cy 0, 16, .inl u_81)), (b_32, .inl (cy 0, 16, .inl u_82)), (b_33, .inl (cy 0, 6, .inl u_83)), (b_34, .inl (cy 1, 60, .inr (.inl u_84))), (b_35, .inl (cy 0, 60, .inl u_85)), (b_36, .inl (cy 0, 60, .inl u_86)), (b_37, .inl (cy 0, 3, .inl u_87)), (q_p3, .inl (cy 1, 1, .inr (.inl p3)))]) (ce := 1) (sl := 6) 54 [54, 55, 56, 57, 58, 59, 60, 61, 62, 63, 64, 65, 66, 67, 68, 69, 70, 71, 72, 73, 74, 75, 76, 77, 78, 79, 80, 81, 82, 83, 84, 85, 86, 87, 88, 89, 90, 91, 92, 93, 94, 95, 96, 97, 98, 99, 100, 101, 102, 103, 104, 105, 106, 53] (by decide +kernel) (by decide +kernel) rfl ⟨rfl, rfl⟩ ?_
    have h0 := h
    rcases hE with rfl
    · have h := h0 rfl
      refine v_catch cx htb [] (0, 10, 13, 20) [] rfl (fun _ h => nomatch h) (by decide) (by decide) wCL_L_20 (by decide +kernel) (fun q9 => ?_)
      refine v_astore (lv' := [(4, .ref q9), (0, .ref q_p0), (1, .int x1), (2, .int x2), (3, .ref q_p3)]) cx dL_takeList_13 (by decide) rfl ?_
      refine v_iconst (v := 1) cx dL_takeList_15 (by decide) ?_
      exact v_ireturn cx rfl dL_takeList_16 ⟨_, _, _, _, _, _, _, _, _, _, _, _, _, _, _, _, _, _, _, _, _, _, _, _, _, _, _, _, _, _, _, _, _, _, _, _, _, _, _, _, _, _, _, _, _, _, _, _, _, _, _, _, _, _, _, _, _, _, _, _, _, _, _, _, _, _, _, _, _, _, _, _, _, _, _, _, _, _, _, _, _, _, _, _, _, _, _, _, rfl, rfl, h⟩
  · refine Exists.elim hp fun r_1 hp => Exists.elim hp fun u_38 hp => Exists.elim hp fun u_39 hp => Exists.elim hp fun u_40 hp => Exists.elim hp fun u_41 hp => Exists.elim hp fun u_42 hp => Exists.elim hp fun u_43 hp => Exists.elim hp fun u_44 hp => Exists.elim hp fun u_45 hp => Exists.elim hp fun u_46 hp => Exists.elim hp fun u_47 hp => Exists.elim hp fun u_48 hp => Exists.elim hp fun u_49 hp => Exists.elim hp fun u_50 hp => Exists.elim hp fun u_51 hp => Exists.elim hp fun u_52 hp => Exists.elim hp fun u_53 hp => Exists.elim hp fun u_54 hp => Exists.elim hp fun u_55 hp => Exists.elim hp fun u_56 hp => Exists.elim hp fun u_57 hp => Exists.elim hp fun u_58 hp => Exists.elim hp fun u_59 hp => Exists.elim hp fun u_60 hp => Exists.elim hp fun u_61 hp => Exists.elim hp fun u_62 hp => Exists.elim hp fun u_63 hp => Exists.elim hp fun u_64 hp => Exists.elim hp fun u_65 hp => Exists.elim hp fun u_66 hp => Exists.elim hp fun u_67 hp => Exists.elim hp fun u_68 hp => Exists.elim hp fun u_69 hp => Exists.elim hp fun u_70 hp => Exists.elim hp fun u_71 hp => Exists.elim hp fun u_72 hp => Exists.elim hp fun u_73 hp => Exists.elim hp fun u_74 hp => Exists.elim hp fun u_75 hp => Exists.elim hp fun u_76 hp => Exists.elim hp fun u_77 hp => Exists.elim hp fun u_78 hp => Exists.elim hp fun u_79 hp => Exists.elim hp fun u_80 hp => Exists.elim hp fun u_81 hp => Exists.elim hp fun u_82 hp => Exists.elim hp fun u_83 hp => Exists.elim hp fun u_84 hp => Exists.elim hp fun u_85 hp => Exists.elim hp fun u_86 hp => Exists.elim hp fun u_87 hp => Exists.elim hp fun b_2 hp => Exists.elim hp fun b_3 hp => Exists.elim hp fun b_4 hp => Exists.elim hp fun b_5 hp => Exists.elim hp fun b_6 hp => Exists.elim hp fun b_7 hp => Exists.elim hp fun b_8 hp => Exists.elim hp fun b_9 hp => Exists.elim hp fun b_10 hp => Exists.elim hp fun b_11 hp => Exists.elim hp fun b_12 hp => Exists.elim hp fun b_13 hp => Exists.elim hp fun b_14 hp => Exists.elim hp fun b_15 hp => Exists.elim hp fun b_16 hp => Exists.elim hp fun b_17 hp => Exists.elim hp fun b_18 hp => Exists.elim hp fun b_19 hp => Exists.elim hp fun b_20 hp => Exists.elim hp fun b_21 hp => Exists.elim hp fun b_22 hp => Exists.elim hp fun b_23 hp => Exists.elim hp fun b_24 hp => Exists.elim hp fun b_25 hp => Exists.elim hp fun b_26 hp => Exists.elim hp fun b_27 hp => Exists.elim hp fun b_28 hp => Exists.elim hp fun b_29 hp => Exists.elim hp fun b_30 hp => Exists.elim hp fun b_31 hp => Exists.elim hp fun b_32 hp => Exists.elim hp fun b_33 hp => Exists.elim hp fun b_34 hp => Exists.elim hp fun b_35 hp => Exists.elim hp fun b_36 hp => Exists.elim hp fun b_37 hp => ?_
    obtain ⟨rfl, rfl, h⟩ := hp
    refine v_afterJ (ws' := [(q_p0, .inr (5, [.ref q_p0_text, .ref q_p0_reader, .ref q_p0_now, .ref q_p0_scores, .ref q_p0_trial, .ref q_p0_listing, .ref q_p0_kept, .int u_38, .int u_39])), (q_p0_reader, .inr (1, [.ref q_p0_text, .int u_40, .int u_41, .long u_42, .int u_43, .ref q_p0_reader_ranges, .ref q_p0_reader_names, .ref q_p0_reader_weights, .int u_44, .ref q_p0_reader_keys, .int p0_reader_size])), (q_p0_text, .inr (4, [.ref q_p0_text_bytes, .int p0_text_length])), (q_p0_text_bytes, .inl (cy 2, 120, .inl p0_text_bytes)), (q_p0_reader_ranges, .inl (cy 1, 10, .inr (.inl u_45))), (q_p0_reader_names, .inl (cy 0, 10, .inl u_46)), (q_p0_reader_weights, .inl (cy 0, 10, .inl u_47)), (q_p0_kept, .inl (cy 4, 4, .inr (.inr (.inr (.inr (ga4 b_2 b_3 b_4 b_5)))))), (b_2, .inr (3, [.int u_48, .ref b_6, .ref b_7, .ref b_8, .ref b_9, .ref b_10, .ref b_11, .ref b_12, .ref b_13])), (b_6, .inl (cy 1, 48, .inr (.inl u_49))), (b_7, .inl (cy 0, 16, .inl u_50)), (b_8, .inl (cy 0, 16, .inl u_51)), (b_9, .inl (cy 0, 6, .inl u_52)), (b_10, .inl (cy 1, 60, .inr (.inl u_53))), (b_11, .inl (cy 0, 60, .inl u_54)), (b_12, .inl (cy 0, 60, .inl u_55)), (b_13, .inl (cy 0, 3, .inl u_56)), (q_p0_now, .inr (3, [.int p0_now_variants, .ref q_p0_now_keys, .ref q_p0_now_sizes, .ref q_p0_now_qualities, .ref q_p0_now_lengths, .ref q_p0_now_ranges, .ref q_p0_now_names, .ref q_p0_now_weights, .ref q_p0_now_ties])), (q_p0_now_keys, .inl (cy 1, 48, .inr (.inl p0_now_keys))), (q_p0_now_sizes, .inl (cy 0, 16, .inl p0_now_sizes)), (q_p0_now_qualities, .inl (cy 0, 16, .inl p0_now_qualities)), (q_p0_now_lengths, .inl (cy 0, 6, .inl u_57)), (q_p0_now_ranges, .inl (cy 1, 60, .inr (.inl u_58))), (q_p0_now_names, .inl (cy 0, 60, .inl u_59)), (q_p0_now_weights, .inl (cy 0, 60, .inl u_60)), (q_p0_now_ties, .inl (cy 0, 3, .inl p0_now_ties)), (b_3, .inr (3, [.int u_61, .ref b_14, .ref b_15, .ref b_16, .ref b_17, .ref b_18, .ref b_19, .ref b_20, .ref b_21])), (b_14, .inl (cy 1, 48, .inr (.inl u_62))), (b_15, .inl (cy 0, 16, .inl u_63)), (b_16, .inl (cy 0, 16, .inl u_64)), (b_17, .inl (cy 0, 6, .inl u_65)), (b_18, .inl (cy 1, 60, .inr (.inl u_66))), (b_19, .inl (cy 0, 60, .inl u_67)), (b_20, .inl (cy 0, 60, .inl u_68)), (b_21, .inl (cy 0, 3, .inl u_69)), (b_4, .inr (3, [.int u_70, .ref b_22, .ref b_23, .ref b_24, .ref b_25, .ref b_26, .ref b_27, .ref b_28, .ref b_29])), (b_22, .inl (cy 1, 48, .inr (.inl u_71))), (b_23, .inl (cy 0, 16, .inl u_72)), (b_24, .inl (cy 0, 16, .inl u_73)), (b_25, .inl (cy 0, 6, .inl u_74)), (b_26, .inl (cy 1, 60, .inr (.inl u_75))), (b_27, .inl (cy 0, 60, .inl u_76)), (b_28, .inl (cy 0, 60, .inl u_77)), (b_29, .inl (cy 0, 3, .inl u_78)), (b_5, .inr (3, [.int u_79, .ref b_30, .ref b_31, .ref b_32, .ref b_33, .ref b_34, .ref b_35, .ref b_36, .ref b_37])), (b_30, .inl (cy 1, 48, .inr (.inl u_80))), (b_31, .inl (cy 0, 16, .inl u_81)), (b_32, .inl (cy 0, 16, .inl u_82)), (b_33, .inl (cy 0, 6, .inl u_83)), (b_34, .inl (cy 1, 60, .inr (.inl u_84))), (b_35, .inl (cy 0, 60, .inl u_85)), (b_36, .inl (cy 0, 60, .inl u_86)), (b_37, .inl (cy 0, 3, .inl u_87)), (q_p3, .inl (cy 1, 1, .inr (.inl p3)))]) (st' := [.int r_1, .int 0, .ref q_p3]) (ce := 1) (sl := 6) 54 [54, 55, 56, 57, 58, 59, 60, 61, 62, 63, 64, 65, 66, 67, 68, 69, 70, 71, 72, 73, 74, 75, 76, 77, 78, 79, 80, 81, 82, 83, 84, 85, 86, 87, 88, 89, 90, 91, 92, 93, 94, 95, 96, 97, 98, 99, 100, 101, 102, 103, 104, 105, 106, 53] (by decide +kernel) (by decide +kernel) rfl rfl ⟨rfl, rfl⟩ ?_
    refine v_i2l cx dL_takeList_8 ?_
    refine v_last (ws' := [(q_p0, .inr (5, [.ref q_p0_text, .ref q_p0_reader, .ref q_p0_now, .ref q_p0_scores, .ref q_p0_trial, .ref q_p0_listing, .ref q_p0_kept, .int u_38, .int u_39])), (q_p0_reader, .inr (1, [.ref q_p0_text, .int u_40, .int u_41, .long u_42, .int u_43, .ref q_p0_reader_ranges, .ref q_p0_reader_names, .ref q_p0_reader_weights, .int u_44, .ref q_p0_reader_keys, .int p0_reader_size])), (q_p0_text, .inr (4, [.ref q_p0_text_bytes, .int p0_text_length])), (q_p0_text_bytes, .inl (cy 2, 120, .inl p0_text_bytes)), (q_p0_reader_ranges, .inl (cy 1, 10, .inr (.inl u_45))), (q_p0_reader_names, .inl (cy 0, 10, .inl u_46)), (q_p0_reader_weights, .inl (cy 0, 10, .inl u_47)), (q_p0_kept, .inl (cy 4, 4, .inr (.inr (.inr (.inr (ga4 b_2 b_3 b_4 b_5)))))), (b_2, .inr (3, [.int u_48, .ref b_6, .ref b_7, .ref b_8, .ref b_9, .ref b_10, .ref b_11, .ref b_12, .ref b_13])), (b_6, .inl (cy 1, 48, .inr (.inl u_49))), (b_7, .inl (cy 0, 16, .inl u_50)), (b_8, .inl (cy 0, 16, .inl u_51)), (b_9, .inl (cy 0, 6, .inl u_52)), (b_10, .inl (cy 1, 60, .inr (.inl u_53))), (b_11, .inl (cy 0, 60, .inl u_54)), (b_12, .inl (cy 0, 60, .inl u_55)), (b_13, .inl (cy 0, 3, .inl u_56)), (q_p0_now, .inr (3, [.int p0_now_variants, .ref q_p0_now_keys, .ref q_p0_now_sizes, .ref q_p0_now_qualities, .ref q_p0_now_lengths, .ref q_p0_now_ranges, .ref q_p0_now_names, .ref q_p0_now_weights, .ref q_p0_now_ties])), (q_p0_now_keys, .inl (cy 1, 48, .inr (.inl p0_now_keys))), (q_p0_now_sizes, .inl (cy 0, 16, .inl p0_now_sizes)), (q_p0_now_qualities, .inl (cy 0, 16, .inl p0_now_qualities)), (q_p0_now_lengths, .inl (cy 0, 6, .inl u_57)), (q_p0_now_ranges, .inl (cy 1, 60, .inr (.inl u_58))), (q_p0_now_names, .inl (cy 0, 60, .inl u_59)), (q_p0_now_weights, .inl (cy 0, 60, .inl u_60)), (q_p0_now_ties, .inl (cy 0, 3, .inl p0_now_ties)), (b_3, .inr (3, [.int u_61, .ref b_14, .ref b_15, .ref b_16, .ref b_17, .ref b_18, .ref b_19, .ref b_20, .ref b_21])), (b_14, .inl (cy 1, 48, .inr (.inl u_62))), (b_15, .inl (cy 0, 16, .inl u_63)), (b_16, .inl (cy 0, 16, .inl u_64)), (b_17, .inl (cy 0, 6, .inl u_65)), (b_18, .inl (cy 1, 60, .inr (.inl u_66))), (b_19, .inl (cy 0, 60, .inl u_67)), (b_20, .inl (cy 0, 60, .inl u_68)), (b_21, .inl (cy 0, 3, .inl u_69)), (b_4, .inr (3, [.int u_70, .ref b_22, .ref b_23, .ref b_24, .ref b_25, .ref b_26, .ref b_27, .ref b_28, .ref b_29])), (b_22, .inl (cy 1, 48, .inr (.inl u_71))), (b_23, .inl (cy 0, 16, .inl u_72)), (b_24, .inl (cy 0, 16, .inl u_73)), (b_25, .inl (cy 0, 6, .inl u_74)), (b_26, .inl (cy 1, 60, .inr (.inl u_75))), (b_27, .inl (cy 0, 60, .inl u_76)), (b_28, .inl (cy 0, 60, .inl u_77)), (b_29, .inl (cy 0, 3, .inl u_78)), (b_5, .inr (3, [.int u_79, .ref b_30, .ref b_31, .ref b_32, .ref b_33, .ref b_34, .ref b_35, .ref b_36, .ref b_37])), (b_30, .inl (cy 1, 48, .inr (.inl u_80))), (b_31, .inl (cy 0, 16, .inl u_81)), (b_32, .inl (cy 0, 16, .inl u_82)), (b_33, .inl (cy 0, 6, .inl u_83)), (b_34, .inl (cy 1, 60, .inr (.inl u_84))), (b_35, .inl (cy 0, 60, .inl u_85)), (b_36, .inl (cy 0, 60, .inl u_86)), (b_37, .inl (cy 0, 3, .inl u_87)), (q_p3, .inl (cy 1, 1, .inr (.inl (vp_updL p3 ((0 : Int32).toNatClampNeg) r_1.toInt64))))]) cx dL_takeList_9 53 rfl ⟨by unfold vp_in; decide, h⟩ rfl (fun h => ?_)
    refine v_goto (tgt := 17) cx dL_takeList_10 (by decide) ?_
    refine v_iconst (v := 0) cx dL_takeList_17 (by decide) ?_
    exact v_ireturn cx rfl dL_takeList_18 ⟨_, _, _, _, _, _, _, _, _, _, _, _, _, _, _, _, _, _, _, _, _, _, _, _, _, _, _, _, _, _, _, _, _, _, _, _, _, _, _, _, _, _, _, _, _, _, _, _, _, _, _, _, _, _, _, _, _, _, _, _, _, _, _, _, _, _, _, _, _, _, _, _, _, _, _, _, _, _, _, _, _, _, _, _, _, _, _, _, rfl, rfl, h⟩

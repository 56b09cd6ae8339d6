abbrev rm_L_takes : Room := { frames := 10, cells := 95, slots := 570, locals := 182 }
set_option maxHeartbeats 40000000 in
set_option maxRecDepth 100000 in
theorem w_L_takes_24 {p : Program} {l : Launch} {e : Env} {s : State} {m : MethodId} {args : Array Value} {below : List Frame} {meth : Method} {c : Code} {Q9 : State → Prop} {mn : String} {Ts : List Cond} {D : va_G} {cy : Nat → ClassId} {g : gT} {A : Nat → Prop} (cx : vC p s m args meth c cL_takes 10 (some .boolean) RL mn Ts D cy g A) (hl : l.stackTraces = false) {q_p0 : Nat} {x1 : Int32} {x2 : Int32} {x3 : Int32} {x4 : Int32} {x5 : Int32} {z : DS} {K24_42 : Int32 → Prop} {cm sm : Nat} (hcm : cm ≤ 95) (hsm : sm ≤ 570) (hK42 : ∀ (x6 : Int32) (w : va_W), K24_42 x6 → DK cy q_p0 z w → vV p l e rm_L_takes s m args below meth c Q9 10 D A cm sm w 42 [(0, .ref q_p0), (1, .int x1), (2, .int x2), (3, .int x3), (4, .int x4), (5, .int x5), (6, .int x6)] []) : ∀ (n c9 s9 : Nat), c9 + n * 1 ≤ cm → s9 + n * 6 ≤ sm → ∀ (x6 : Int32) (w : va_W), p_L_takes_24 z x1 x2 K24_42 n x6 → DK cy q_p0 z w → vV p l e rm_L_takes s m args below meth c Q9 10 D A c9 s9 w 24 [(0, .ref q_p0), (1, .int x1), (2, .int x2), (3, .int x3), (4, .int x4), (5, .int x5), (6, .int x6)] [] := by
  intro n
  induction n with
  | zero => intro c9 s9 hc9 hs9 x6 w h; exact False.elim h
  | succ n ih =>
    intro c9 s9 hc9 hs9 x6 w h hdk
    unfold p_L_takes_24 at h
    refine v_aload_n cx dL_takes_24 rfl 0 rfl ?_
    refine v_iload_n cx dL_takes_25 rfl 1 rfl ?_
    refine v_iload_n cx dL_takes_26 rfl 2 rfl ?_
    refine v_iload cx dL_takes_27 6 rfl ?_
    refine v_iconst (v := 0) cx dL_takes_29 (by decide) ?_
    refine a_entry cx hl (by decide) ⟨(ob1 (c := c9) (d := 1) hc9 hcm rfl), (ob1 (c := s9) (d := 6) hs9 hsm rfl)⟩ (Nat.le_of_ble_eq_true rfl) dL_takes_30 hdk (fun w hdk => ?_)
    refine v_if_lt (tgt := 42) cx dL_takes_33 (by decide) h (fun h => ?_) (fun h => ?_)
    · refine v_lv (lv' := [(0, .ref q_p0), (1, .int x1), (2, .int x2), (3, .int x3), (4, .int x4), (5, .int x5), (6, .int x6)]) [0, 1, 2, 3, 4, 5, 6] rfl ?_
      refine v_widen (k9 := cm) (n9 := sm) (ob2 (c := c9) (d := 1) hc9 rfl) (ob2 (c := s9) (d := 6) hs9 rfl) ?_
      exact hK42 _ _ h hdk
    · refine v_iinc (v := x6 + 1) (k0 := 6) (lv' := [(6, .int (x6 + 1)), (0, .ref q_p0), (1, .int x1), (2, .int x2), (3, .int x3), (4, .int x4), (5, .int x5)]) cx dL_takes_36 rfl rfl (by decide) rfl ?_
      refine v_goto (tgt := 24) cx dL_takes_39 (by decide) ?_
      refine v_lv (lv' := [(0, .ref q_p0), (1, .int x1), (2, .int x2), (3, .int x3), (4, .int x4), (5, .int x5), (6, .int (x6 + 1))]) [1, 2, 3, 4, 5, 6, 0] rfl ?_
      refine v_widen (k9 := (c9 + 1)) (n9 := (s9 + 6)) (ob3 (c := c9) (d := 1) (e := 1) rfl) (ob3 (c := s9) (d := 6) (e := 6) rfl) ?_
      exact ih _ _ (ob4 hc9) (ob4 hs9) _ _ h hdk
set_option maxHeartbeats 40000000 in
set_option maxRecDepth 100000 in
theorem w_L_takes_48 {p : Program} {l : Launch} {e : Env} {s : State} {m : MethodId} {args : Array Value} {below : List Frame} {meth : Method} {c : Code} {Q9 : State → Prop} {mn : String} {Ts : List Cond} {D : va_G} {cy : Nat → ClassId} {g : gT} {A : Nat → Prop} (cx : vC p s m args meth c cL_takes 10 (some .boolean) RL mn Ts D cy g A) (hl : l.stackTraces = false) {q_p0 : Nat} {x1 : Int32} {x2 : Int32} {x3 : Int32} {x4 : Int32} {x5 : Int32} {x6 : Int32} {K48_302 : Int32 → Int32 → DS → Prop} {cm sm : Nat} (hcm : cm ≤ 95) (hsm : sm ≤ 570) (hK302 : ∀ (x7 : Int32) (x8 : Int32) (z : DS) (w : va_W), K48_302 x7 x8 z → DK cy q_p0 z w → vV p l e rm_L_takes s m args below meth c Q9 10 D A cm sm w 302 [(0, .ref q_p0), (1, .int x1), (2, .int x2), (3, .int x3), (4, .int x4), (5, .int x5), (6, .int x6), (7, .int x7), (8, .int x8)] []) : ∀ (n c9 s9 : Nat), c9 + n * 15 ≤ cm → s9 + n * 90 ≤ sm → ∀ (x7 : Int32) (x8 : Int32) (z : DS) (w : va_W), p_L_takes_48 x4 x2 x3 K48_302 n x7 x8 z → DK cy q_p0 z w → vV p l e rm_L_takes s m args below meth c Q9 10 D A c9 s9 w 48 [(0, .ref q_p0), (1, .int x1), (2, .int x2), (3, .int x3), (4, .int x4), (5, .int x5), (6, .int x6), (7, .int x7), (8, .int x8)] [] := by
  intro n
  induction n with
  | zero => intro c9 s9 hc9 hs9 x7 x8 z w h; exact False.elim h
  | succ n ih =>
    intro c9 s9 hc9 hs9 x7 x8 z w h hdk
    unfold p_L_takes_48 at h
    refine v_iload cx dL_takes_48 8 rfl ?_
    refine v_iload cx dL_takes_50 4 rfl ?_
    refine v_icmp_ge (tgt := 302) cx dL_takes_52 (by decide) h (fun h => ?_) (fun h => ?_)
    · refine v_lv (lv' := [(0, .ref q_p0), (1, .int x1), (2, .int x2), (3, .int x3), (4, .int x4), (5, .int x5), (6, .int x6), (7, .int x7), (8, .int x8)]) [0, 1, 2, 3, 4, 5, 6, 7, 8] rfl ?_
      refine v_widen (k9 := cm) (n9 := sm) (ob2 (c := c9) (d := 0) hc9 rfl) (ob2 (c := s9) (d := 0) hs9 rfl) ?_
      exact hK302 _ _ _ _ h hdk
    · refine v_iload_n cx dL_takes_55 rfl 3 rfl ?_
      refine v_iconst (v := 3) cx dL_takes_56 (by decide) ?_
      refine v_iconst (v := 3) cx dL_takes_57 (by decide) ?_
      refine v_iload cx dL_takes_58 8 rfl ?_
      refine v_imul cx dL_takes_60 ?_
      refine v_iadd cx dL_takes_61 ?_
      refine v_ishr cx dL_takes_62 ?_
      refine v_istore (lv' := [(9, .int (x3 >>> (((3 : Int32) + ((3 : Int32) * x8)) &&& 31))), (0, .ref q_p0), (1, .int x1), (2, .int x2), (3, .int x3), (4, .int x4), (5, .int x5), (6, .int x6), (7, .int x7), (8, .int x8)]) cx dL_takes_63 (by decide) rfl ?_
      refine v_iload cx dL_takes_65 8 rfl ?_
      refine v_iload cx dL_takes_67 9 rfl ?_
      have hj89 : ∀ (y_8 : Int32) (z_9 : DS) (w : va_W), p_L_takes_j89 x2 x3 x8 (p_L_takes_48 x4 x2 x3 K48_302 n) x7 y_8 z_9 → DK cy q_p0 z_9 w → vV p l e rm_L_takes s m args below meth c Q9 10 D A (c9 + 2) (s9 + 12) w 89 [(0, .ref q_p0), (1, .int x1), (2, .int x2), (3, .int x3), (4, .int x4), (5, .int x5), (6, .int x6), (7, .int x7), (8, .int x8), (9, .int (x3 >>> (((3 : Int32) + ((3 : Int32) * x8)) &&& 31)))] [.int y_8, .int x7] := by
        intro y_8 z_9 w h hdk
        unfold p_L_takes_j89 at h
        refine v_iadd cx dL_takes_89 ?_
        refine v_istore (lv' := [(7, .int (x7 + y_8)), (0, .ref q_p0), (1, .int x1), (2, .int x2), (3, .int x3), (4, .int x4), (5, .int x5), (6, .int x6), (8, .int x8), (9, .int (x3 >>> (((3 : Int32) + ((3 : Int32) * x8)) &&& 31)))]) cx dL_takes_90 (by decide) rfl ?_
        refine v_iload_n cx dL_takes_92 rfl 3 rfl ?_
        have hj215 : ∀ (y_30 : Int32) (z_31 : DS) (w : va_W), p_L_takes_j215 x3 x8 (p_L_takes_48 x4 x2 x3 K48_302 n) y_30 z_31 → DK cy q_p0 z_31 w → vV p l e rm_L_takes s m args below meth c Q9 10 D A (c9 + 9) (s9 + 54) w 215 [(0, .ref q_p0), (1, .int x1), (2, .int x2), (3, .int x3), (4, .int x4), (5, .int x5), (6, .int x6), (7, .int y_30), (8, .int x8), (9, .int (x3 >>> (((3 : Int32) + ((3 : Int32) * x8)) &&& 31)))] [] := by
          intro y_30 z_31 w h hdk
          unfold p_L_takes_j215 at h
          refine v_iload cx dL_takes_215 7 rfl ?_
          refine v_iload cx dL_takes_217 9 rfl ?_
          refine v_iconst (v := 4) cx dL_takes_219 (by decide) ?_
          refine v_ishr cx dL_takes_220 ?_
          refine v_iconst (v := 3) cx dL_takes_221 (by decide) ?_
          refine a_low cx (by decide) ⟨(ob1 (c := c9) (d := 9) hc9 hcm rfl), (ob1 (c := s9) (d := 54) hs9 hsm rfl)⟩ (Nat.le_of_ble_eq_true rfl) dL_takes_222 (by decide) ?_
          have hj293 : ∀ (y_44 : Int32) (z_45 : DS) (w : va_W), p_L_takes_j293 (p_L_takes_48 x4 x2 x3 K48_302 n) y_30 x8 y_44 z_45 → DK cy q_p0 z_45 w → vV p l e rm_L_takes s m args below meth c Q9 10 D A (c9 + 15) (s9 + 90) w 293 [(0, .ref q_p0), (1, .int x1), (2, .int x2), (3, .int x3), (4, .int x4), (5, .int x5), (6, .int x6), (7, .int y_30), (8, .int x8), (9, .int (x3 >>> (((3 : Int32) + ((3 : Int32) * x8)) &&& 31)))] [.int y_44, .int y_30] := by
            intro y_44 z_45 w h hdk
            unfold p_L_takes_j293 at h
            refine v_iadd cx dL_takes_293 ?_
            refine v_istore (lv' := [(7, .int (y_30 + y_44)), (0, .ref q_p0), (1, .int x1), (2, .int x2), (3, .int x3), (4, .int x4), (5, .int x5), (6, .int x6), (8, .int x8), (9, .int (x3 >>> (((3 : Int32) + ((3 : Int32) * x8)) &&& 31)))]) cx dL_takes_294 (by decide) rfl ?_
            refine v_iinc (v := x8 + 1) (k0 := 8) (lv' := [(8, .int (x8 + 1)), (7, .int (y_30 + y_44)), (0, .ref q_p0), (1, .int x1), (2, .int x2), (3, .int x3), (4, .int x4), (5, .int x5), (6, .int x6), (9, .int (x3 >>> (((3 : Int32) + ((3 : Int32) * x8)) &&& 31)))]) cx dL_takes_296 rfl rfl (by decide) rfl ?_
            refine v_goto (tgt := 48) cx dL_takes_299 (by decide) ?_
            refine v_lv (lv' := [(0, .ref q_p0), (1, .int x1), (2, .int x2), (3, .int x3), (4, .int x4), (5, .int x5), (6, .int x6), (7, .int (y_30 + y_44)), (8, .int (x8 + 1))]) [2, 3, 4, 5, 6, 7, 8, 1, 0] rfl ?_
            refine v_widen (k9 := (c9 + 15)) (n9 := (s9 + 90)) (ob3 (c := c9) (d := 15) (e := 15) rfl) (ob3 (c := s9) (d := 90) (e := 90) rfl) ?_
            exact ih _ _ (ob4 hc9) (ob4 hs9) _ _ _ _ h hdk
          refine v_if_ne (tgt := 232) cx dL_takes_225 (by decide) h (fun h => ?_) (fun h => ?_)
          · refine v_aload_n cx dL_takes_232 rfl 0 rfl ?_
            refine v_bipush (v := 32) cx dL_takes_233 (by decide) ?_
            refine v_callSall2 (As := [.ref q_p0, .int (32 : Int32)]) (mc := 1) (ms := 6) cx (c_L_put l hl g D cy hdk h) k_L_147 (by decide) ⟨rfl, rfl⟩ ⟨(ob1 (c := c9) (d := 10) hc9 hcm rfl), (ob1 (c := s9) (d := 60) hs9 hsm rfl)⟩ rfl rfl (Nat.le_of_ble_eq_true rfl) dL_takes_235 (fun v9 w hp => ?_)
            obtain ⟨r_32, z_33, rfl, hdk, h⟩ := hp
            refine v_st (st' := [.int r_32, .int y_30]) rfl ?_
            refine v_aload_n cx dL_takes_238 rfl 0 rfl ?_
            refine v_bipush (v := 59) cx dL_takes_239 (by decide) ?_
            refine v_callSall2 (As := [.ref q_p0, .int (59 : Int32)]) (mc := 1) (ms := 6) cx (c_L_put l hl g D cy hdk h) k_L_147 (by decide) ⟨rfl, rfl⟩ ⟨(ob1 (c := c9) (d := 11) hc9 hcm rfl), (ob1 (c := s9) (d := 66) hs9 hsm rfl)⟩ rfl rfl (Nat.le_of_ble_eq_true rfl) dL_takes_241 (fun v9 w hp => ?_)
            obtain ⟨r_34, z_35, rfl, hdk, h⟩ := hp
            refine v_st (st' := [.int r_34, .int r_32, .int y_30]) rfl ?_
            refine v_iadd cx dL_takes_244 ?_
            refine v_aload_n cx dL_takes_245 rfl 0 rfl ?_
            refine v_bipush (v := 48) cx dL_takes_246 (by decide) ?_
            refine v_callSall2 (As := [.ref q_p0, .int (48 : Int32)]) (mc := 1) (ms := 6) cx (c_L_put l hl g D cy hdk h) k_L_147 (by decide) ⟨rfl, rfl⟩ ⟨(ob1 (c := c9) (d := 12) hc9 hcm rfl), (ob1 (c := s9) (d := 72) hs9 hsm rfl)⟩ rfl rfl (Nat.le_of_ble_eq_true rfl) dL_takes_248 (fun v9 w hp => ?_)
            obtain ⟨r_36, z_37, rfl, hdk, h⟩ := hp
            refine v_st (st' := [.int r_36, .int (r_32 + r_34), .int y_30]) rfl ?_
            refine v_iadd cx dL_takes_251 ?_
            refine v_aload_n cx dL_takes_252 rfl 0 rfl ?_
            refine v_bipush (v := 48) cx dL_takes_253 (by decide) ?_
            refine v_iload cx dL_takes_255 9 rfl ?_
            refine v_iconst (v := 5) cx dL_takes_257 (by decide) ?_
            refine v_ishr cx dL_takes_258 ?_
            refine v_bipush (v := 10) cx dL_takes_259 (by decide) ?_
            refine a_low cx (by decide) ⟨(ob1 (c := c9) (d := 12) hc9 hcm rfl), (ob1 (c := s9) (d := 72) hs9 hsm rfl)⟩ (Nat.le_of_ble_eq_true rfl) dL_takes_261 (by decide) ?_
            refine v_iadd cx dL_takes_264 ?_
            refine v_callSall2 (As := [.ref q_p0, .int ((48 : Int32) + (lowW ((x3 >>> (((3 : Int32) + ((3 : Int32) * x8)) &&& 31)) >>> (5 &&& 31)) (10 : Int32) : Int32))]) (mc := 1) (ms := 6) cx (c_L_put l hl g D cy hdk h) k_L_147 (by decide) ⟨rfl, rfl⟩ ⟨(ob1 (c := c9) (d := 13) hc9 hcm rfl), (ob1 (c := s9) (d := 78) hs9 hsm rfl)⟩ rfl rfl (Nat.le_of_ble_eq_true rfl) dL_takes_265 (fun v9 w hp => ?_)
            obtain ⟨r_38, z_39, rfl, hdk, h⟩ := hp
            refine v_st (st' := [.int r_38, .int ((r_32 + r_34) + r_36), .int y_30]) rfl ?_
            refine v_iadd cx dL_takes_268 ?_
            refine v_aload_n cx dL_takes_269 rfl 0 rfl ?_
            refine v_bipush (v := 48) cx dL_takes_270 (by decide) ?_
            refine v_iload cx dL_takes_272 9 rfl ?_
            refine v_iconst (v := 2) cx dL_takes_274 (by decide) ?_
            refine v_ishr cx dL_takes_275 ?_
            refine v_bipush (v := 10) cx dL_takes_276 (by decide) ?_
            refine a_low cx (by decide) ⟨(ob1 (c := c9) (d := 13) hc9 hcm rfl), (ob1 (c := s9) (d := 78) hs9 hsm rfl)⟩ (Nat.le_of_ble_eq_true rfl) dL_takes_278 (by decide) ?_
            refine v_iadd cx dL_takes_281 ?_
            refine v_callSall2 (As := [.ref q_p0, .int ((48 : Int32) + (lowW ((x3 >>> (((3 : Int32) + ((3 : Int32) * x8)) &&& 31)) >>> (2 &&& 31)) (10 : Int32) : Int32))]) (mc := 1) (ms := 6) cx (c_L_put l hl g D cy hdk h) k_L_147 (by decide) ⟨rfl, rfl⟩ ⟨(ob1 (c := c9) (d := 14) hc9 hcm rfl), (ob1 (c := s9) (d := 84) hs9 hsm rfl)⟩ rfl rfl (Nat.le_of_ble_eq_true rfl) dL_takes_282 (fun v9 w hp => ?_)
            obtain ⟨r_40, z_41, rfl, hdk, h⟩ := hp
            refine v_st (st' := [.int r_40, .int (((r_32 + r_34) + r_36) + r_38), .int y_30]) rfl ?_
            refine v_iadd cx dL_takes_285 ?_
            refine v_aload_n cx dL_takes_286 rfl 0 rfl ?_
            refine v_bipush (v := 48) cx dL_takes_287 (by decide) ?_
            refine v_callSall2 (As := [.ref q_p0, .int (48 : Int32)]) (mc := 1) (ms := 6) cx (c_L_put l hl g D cy hdk h) k_L_147 (by decide) ⟨rfl, rfl⟩ ⟨(ob1 (c := c9) (d := 15) hc9 hcm rfl), (ob1 (c := s9) (d := 90) hs9 hsm rfl)⟩ rfl rfl (Nat.le_of_ble_eq_true rfl) dL_takes_289 (fun v9 w hp => ?_)
            obtain ⟨r_42, z_43, rfl, hdk, h⟩ := hp
            refine v_st (st' := [.int r_42, .int ((((r_32 + r_34) + r_36) + r_38) + r_40), .int y_30]) rfl ?_
            refine v_iadd cx dL_takes_292 ?_
            refine v_lv (lv' := [(0, .ref q_p0), (1, .int x1), (2, .int x2), (3, .int x3), (4, .int x4), (5, .int x5), (6, .int x6), (7, .int y_30), (8, .int x8), (9, .int (x3 >>> (((3 : Int32) + ((3 : Int32) * x8)) &&& 31)))]) [0, 1, 2, 3, 4, 5, 6, 7, 8, 9] rfl ?_
            refine v_widen (k9 := (c9 + 15)) (n9 := (s9 + 90)) (ob3 (c := c9) (d := 15) (e := 15) rfl) (ob3 (c := s9) (d := 90) (e := 90) rfl) ?_
            exact hj293 (((((r_32 + r_34) + r_36) + r_38) + r_40) + r_42) z_43 _ h hdk
          · refine v_iconst (v := 0) cx dL_takes_228 (by decide) ?_
            refine v_goto (tgt := 293) cx dL_takes_229 (by decide) ?_
            refine v_lv (lv' := [(0, .ref q_p0), (1, .int x1), (2, .int x2), (3, .int x3), (4, .int x4), (5, .int x5), (6, .int x6), (7, .int y_30), (8, .int x8), (9, .int (x3 >>> (((3 : Int32) + ((3 : Int32) * x8)) &&& 31)))]) [0, 1, 2, 3, 4, 5, 6, 7, 8, 9] rfl ?_
            refine v_widen (k9 := (c9 + 15)) (n9 := (s9 + 90)) (ob3 (c := c9) (d := 9) (e := 15) rfl) (ob3 (c := s9) (d := 54) (e := 90) rfl) ?_
            exact hj293 0 z_31 _ h hdk
        refine v_if_ne (tgt := 183) cx dL_takes_93 (by decide) h (fun h => ?_) (fun h => ?_)
        · refine v_iload cx dL_takes_183 0 rfl ?_
          refine v_iload cx dL_takes_185 9 rfl ?_
          refine v_iconst (v := 4) cx dL_takes_187 (by decide) ?_
          refine a_low cx (by decide) ⟨(ob1 (c := c9) (d := 2) hc9 hcm rfl), (ob1 (c := s9) (d := 12) hs9 hsm rfl)⟩ (Nat.le_of_ble_eq_true rfl) dL_takes_188 (by decide) ?_
          have hj212 : ∀ (y_14 : Int32) (z_15 : DS) (w : va_W), p_L_takes_j212 x3 x8 (p_L_takes_48 x4 x2 x3 K48_302 n) x7 y_8 y_14 z_15 → DK cy q_p0 z_15 w → vV p l e rm_L_takes s m args below meth c Q9 10 D A (c9 + 5) (s9 + 30) w 212 [(0, .ref q_p0), (1, .int x1), (2, .int x2), (3, .int x3), (4, .int x4), (5, .int x5), (6, .int x6), (7, .int (x7 + y_8)), (8, .int x8), (9, .int (x3 >>> (((3 : Int32) + ((3 : Int32) * x8)) &&& 31)))] [.int y_14, .int (x7 + y_8)] := by
            intro y_14 z_15 w h hdk
            unfold p_L_takes_j212 at h
            refine v_iadd cx dL_takes_212 ?_
            refine v_istore (lv' := [(7, .int ((x7 + y_8) + y_14)), (0, .ref q_p0), (1, .int x1), (2, .int x2), (3, .int x3), (4, .int x4), (5, .int x5), (6, .int x6), (8, .int x8), (9, .int (x3 >>> (((3 : Int32) + ((3 : Int32) * x8)) &&& 31)))]) cx dL_takes_213 (by decide) rfl ?_
            refine v_lv (lv' := [(0, .ref q_p0), (1, .int x1), (2, .int x2), (3, .int x3), (4, .int x4), (5, .int x5), (6, .int x6), (7, .int ((x7 + y_8) + y_14)), (8, .int x8), (9, .int (x3 >>> (((3 : Int32) + ((3 : Int32) * x8)) &&& 31)))]) [1, 2, 3, 4, 5, 6, 7, 0, 8, 9] rfl ?_
            refine v_widen (k9 := (c9 + 9)) (n9 := (s9 + 54)) (ob3 (c := c9) (d := 5) (e := 9) rfl) (ob3 (c := s9) (d := 30) (e := 54) rfl) ?_
            exact hj215 ((x7 + y_8) + y_14) z_15 _ h hdk
          refine v_if_ne (tgt := 203) cx dL_takes_191 (by decide) h (fun h => ?_) (fun h => ?_)
          · refine v_aload_n cx dL_takes_203 rfl 1 rfl ?_
            refine v_iload cx dL_takes_204 9 rfl ?_
            refine v_bipush (v := 31) cx dL_takes_206 (by decide) ?_
            refine v_iand cx dL_takes_208 ?_
            refine v_callSall2 (As := [.ref q_p0, .int ((x3 >>> (((3 : Int32) + ((3 : Int32) * x8)) &&& 31)) &&& (31 : Int32))]) (mc := 3) (ms := 18) cx (c_L_name l hl g D cy hdk h) k_L_153 (by decide) ⟨rfl, rfl⟩ ⟨(ob1 (c := c9) (d := 5) hc9 hcm rfl), (ob1 (c := s9) (d := 30) hs9 hsm rfl)⟩ rfl rfl (Nat.le_of_ble_eq_true rfl) dL_takes_209 (fun v9 w hp => ?_)
            obtain ⟨r_10, z_11, rfl, hdk, h⟩ := hp
            refine v_st (st' := [.int r_10, .int (x7 + y_8)]) rfl ?_
            refine v_lv (lv' := [(0, .ref q_p0), (1, .int x1), (2, .int x2), (3, .int x3), (4, .int x4), (5, .int x5), (6, .int x6), (7, .int (x7 + y_8)), (8, .int x8), (9, .int (x3 >>> (((3 : Int32) + ((3 : Int32) * x8)) &&& 31)))]) [1, 2, 3, 4, 5, 6, 7, 0, 8, 9] rfl ?_
            refine v_widen (k9 := (c9 + 5)) (n9 := (s9 + 30)) (ob3 (c := c9) (d := 5) (e := 5) rfl) (ob3 (c := s9) (d := 30) (e := 30) rfl) ?_
            exact hj212 r_10 z_11 _ h hdk
          · refine v_aload_n cx dL_takes_194 rfl 1 rfl ?_
            refine v_bipush (v := 42) cx dL_takes_195 (by decide) ?_
            refine v_callSall2 (As := [.ref q_p0, .int (42 : Int32)]) (mc := 1) (ms := 6) cx (c_L_put l hl g D cy hdk h) k_L_147 (by decide) ⟨rfl, rfl⟩ ⟨(ob1 (c := c9) (d := 3) hc9 hcm rfl), (ob1 (c := s9) (d := 18) hs9 hsm rfl)⟩ rfl rfl (Nat.le_of_ble_eq_true rfl) dL_takes_197 (fun v9 w hp => ?_)
            obtain ⟨r_12, z_13, rfl, hdk, h⟩ := hp
            refine v_st (st' := [.int r_12, .int (x7 + y_8)]) rfl ?_
            refine v_goto (tgt := 212) cx dL_takes_200 (by decide) ?_
            refine v_lv (lv' := [(0, .ref q_p0), (1, .int x1), (2, .int x2), (3, .int x3), (4, .int x4), (5, .int x5), (6, .int x6), (7, .int (x7 + y_8)), (8, .int x8), (9, .int (x3 >>> (((3 : Int32) + ((3 : Int32) * x8)) &&& 31)))]) [1, 2, 3, 4, 5, 6, 7, 0, 8, 9] rfl ?_
            refine v_widen (k9 := (c9 + 5)) (n9 := (s9 + 30)) (ob3 (c := c9) (d := 3) (e := 5) rfl) (ob3 (c := s9) (d := 18) (e := 30) rfl) ?_
            exact hj212 r_12 z_13 _ h hdk
        · refine v_iload cx dL_takes_96 0 rfl ?_
          refine v_iload cx dL_takes_98 9 rfl ?_
          refine v_iconst (v := 4) cx dL_takes_100 (by decide) ?_
          refine a_low cx (by decide) ⟨(ob1 (c := c9) (d := 2) hc9 hcm rfl), (ob1 (c := s9) (d := 12) hs9 hsm rfl)⟩ (Nat.le_of_ble_eq_true rfl) dL_takes_101 (by decide) ?_
          have hj125 : ∀ (y_20 : Int32) (z_21 : DS) (w : va_W), p_L_takes_j125 x3 x8 (p_L_takes_48 x4 x2 x3 K48_302 n) x7 y_8 y_20 z_21 → DK cy q_p0 z_21 w → vV p l e rm_L_takes s m args below meth c Q9 10 D A (c9 + 5) (s9 + 30) w 125 [(0, .ref q_p0), (1, .int x1), (2, .int x2), (3, .int x3), (4, .int x4), (5, .int x5), (6, .int x6), (7, .int (x7 + y_8)), (8, .int x8), (9, .int (x3 >>> (((3 : Int32) + ((3 : Int32) * x8)) &&& 31)))] [.int y_20, .int (x7 + y_8)] := by
            intro y_20 z_21 w h hdk
            unfold p_L_takes_j125 at h
            refine v_iadd cx dL_takes_125 ?_
            refine v_istore (lv' := [(7, .int ((x7 + y_8) + y_20)), (0, .ref q_p0), (1, .int x1), (2, .int x2), (3, .int x3), (4, .int x4), (5, .int x5), (6, .int x6), (8, .int x8), (9, .int (x3 >>> (((3 : Int32) + ((3 : Int32) * x8)) &&& 31)))]) cx dL_takes_126 (by decide) rfl ?_
            refine v_iload cx dL_takes_128 0 rfl ?_
            refine v_aload_n cx dL_takes_130 rfl 1 rfl ?_
            refine v_bipush (v := 47) cx dL_takes_131 (by decide) ?_
            refine v_callSall2 (As := [.ref q_p0, .int (47 : Int32)]) (mc := 1) (ms := 6) cx (c_L_put l hl g D cy hdk h) k_L_147 (by decide) ⟨rfl, rfl⟩ ⟨(ob1 (c := c9) (d := 6) hc9 hcm rfl), (ob1 (c := s9) (d := 36) hs9 hsm rfl)⟩ rfl rfl (Nat.le_of_ble_eq_true rfl) dL_takes_133 (fun v9 w hp => ?_)
            obtain ⟨r_22, z_23, rfl, hdk, h⟩ := hp
            refine v_st (st' := [.int r_22, .int ((x7 + y_8) + y_20)]) rfl ?_
            refine v_iload cx dL_takes_136 9 rfl ?_
            refine v_iconst (v := 4) cx dL_takes_138 (by decide) ?_
            refine a_low cx (by decide) ⟨(ob1 (c := c9) (d := 6) hc9 hcm rfl), (ob1 (c := s9) (d := 36) hs9 hsm rfl)⟩ (Nat.le_of_ble_eq_true rfl) dL_takes_139 (by decide) ?_
            have hj176 : ∀ (y_28 : Int32) (z_29 : DS) (w : va_W), p_L_takes_j176 x3 x8 (p_L_takes_48 x4 x2 x3 K48_302 n) x7 y_8 y_20 r_22 y_28 z_29 → DK cy q_p0 z_29 w → vV p l e rm_L_takes s m args below meth c Q9 10 D A (c9 + 9) (s9 + 54) w 176 [(0, .ref q_p0), (1, .int x1), (2, .int x2), (3, .int x3), (4, .int x4), (5, .int x5), (6, .int x6), (7, .int ((x7 + y_8) + y_20)), (8, .int x8), (9, .int (x3 >>> (((3 : Int32) + ((3 : Int32) * x8)) &&& 31)))] [.int y_28, .int r_22, .int ((x7 + y_8) + y_20)] := by
              intro y_28 z_29 w h hdk
              unfold p_L_takes_j176 at h
              refine v_iadd cx dL_takes_176 ?_
              refine v_iadd cx dL_takes_177 ?_
              refine v_istore (lv' := [(7, .int (((x7 + y_8) + y_20) + (r_22 + y_28))), (0, .ref q_p0), (1, .int x1), (2, .int x2), (3, .int x3), (4, .int x4), (5, .int x5), (6, .int x6), (8, .int x8), (9, .int (x3 >>> (((3 : Int32) + ((3 : Int32) * x8)) &&& 31)))]) cx dL_takes_178 (by decide) rfl ?_
              refine v_goto (tgt := 215) cx dL_takes_180 (by decide) ?_
              refine v_lv (lv' := [(0, .ref q_p0), (1, .int x1), (2, .int x2), (3, .int x3), (4, .int x4), (5, .int x5), (6, .int x6), (7, .int (((x7 + y_8) + y_20) + (r_22 + y_28))), (8, .int x8), (9, .int (x3 >>> (((3 : Int32) + ((3 : Int32) * x8)) &&& 31)))]) [1, 2, 3, 4, 5, 6, 7, 0, 8, 9] rfl ?_
              refine v_widen (k9 := (c9 + 9)) (n9 := (s9 + 54)) (ob3 (c := c9) (d := 9) (e := 9) rfl) (ob3 (c := s9) (d := 54) (e := 54) rfl) ?_
              exact hj215 (((x7 + y_8) + y_20) + (r_22 + y_28)) z_29 _ h hdk
            have hj156 : ∀ (w : va_W), p_L_takes_j156 z_23 x3 x8 (p_L_takes_48 x4 x2 x3 K48_302 n) x7 y_8 y_20 r_22 → DK cy q_p0 z_23 w → vV p l e rm_L_takes s m args below meth c Q9 10 D A (c9 + 6) (s9 + 36) w 156 [(0, .ref q_p0), (1, .int x1), (2, .int x2), (3, .int x3), (4, .int x4), (5, .int x5), (6, .int x6), (7, .int ((x7 + y_8) + y_20)), (8, .int x8), (9, .int (x3 >>> (((3 : Int32) + ((3 : Int32) * x8)) &&& 31)))] [.int r_22, .int ((x7 + y_8) + y_20)] := by
              intro w h hdk
              unfold p_L_takes_j156 at h
              refine v_aload_n cx dL_takes_156 rfl 0 rfl ?_
              refine v_bipush (v := 42) cx dL_takes_157 (by decide) ?_
              refine v_callSall2 (As := [.ref q_p0, .int (42 : Int32)]) (mc := 1) (ms := 6) cx (c_L_put l hl g D cy hdk h) k_L_147 (by decide) ⟨rfl, rfl⟩ ⟨(ob1 (c := c9) (d := 7) hc9 hcm rfl), (ob1 (c := s9) (d := 42) hs9 hsm rfl)⟩ rfl rfl (Nat.le_of_ble_eq_true rfl) dL_takes_159 (fun v9 w hp => ?_)
              obtain ⟨r_26, z_27, rfl, hdk, h⟩ := hp
              refine v_st (st' := [.int r_26, .int r_22, .int ((x7 + y_8) + y_20)]) rfl ?_
              refine v_goto (tgt := 176) cx dL_takes_162 (by decide) ?_
              refine v_lv (lv' := [(0, .ref q_p0), (1, .int x1), (2, .int x2), (3, .int x3), (4, .int x4), (5, .int x5), (6, .int x6), (7, .int ((x7 + y_8) + y_20)), (8, .int x8), (9, .int (x3 >>> (((3 : Int32) + ((3 : Int32) * x8)) &&& 31)))]) [0, 1, 2, 3, 4, 5, 6, 7, 8, 9] rfl ?_
              refine v_widen (k9 := (c9 + 9)) (n9 := (s9 + 54)) (ob3 (c := c9) (d := 7) (e := 9) rfl) (ob3 (c := s9) (d := 42) (e := 54) rfl) ?_
              exact hj176 r_26 z_27 _ h hdk
            refine v_if_eq (tgt := 156) cx dL_takes_142 (by decide) h (fun h => ?_) (fun h => ?_)
            · refine v_lv (lv' := [(0, .ref q_p0), (1, .int x1), (2, .int x2), (3, .int x3), (4, .int x4), (5, .int x5), (6, .int x6), (7, .int ((x7 + y_8) + y_20)), (8, .int x8), (9, .int (x3 >>> (((3 : Int32) + ((3 : Int32) * x8)) &&& 31)))]) [1, 2, 3, 4, 5, 6, 7, 0, 8, 9] rfl ?_
              refine v_widen (k9 := (c9 + 6)) (n9 := (s9 + 36)) (ob3 (c := c9) (d := 6) (e := 6) rfl) (ob3 (c := s9) (d := 36) (e := 36) rfl) ?_
              exact hj156 _ h hdk
            · refine v_iload cx dL_takes_145 9 rfl ?_
              refine v_iconst (v := 3) cx dL_takes_147 (by decide) ?_
              refine v_ishr cx dL_takes_148 ?_
              refine v_iconst (v := 3) cx dL_takes_149 (by decide) ?_
              refine a_low cx (by decide) ⟨(ob1 (c := c9) (d := 6) hc9 hcm rfl), (ob1 (c := s9) (d := 36) hs9 hsm rfl)⟩ (Nat.le_of_ble_eq_true rfl) dL_takes_150 (by decide) ?_
              refine v_if_ne (tgt := 165) cx dL_takes_153 (by decide) h (fun h => ?_) (fun h => ?_)
              · refine v_aload_n cx dL_takes_165 rfl 1 rfl ?_
                refine v_iload cx dL_takes_166 9 rfl ?_
                refine v_iconst (v := 2) cx dL_takes_168 (by decide) ?_
                refine v_ishr cx dL_takes_169 ?_
                refine v_bipush (v := 31) cx dL_takes_170 (by decide) ?_
                refine v_iand cx dL_takes_172 ?_
                refine v_callSall2 (As := [.ref q_p0, .int (((x3 >>> (((3 : Int32) + ((3 : Int32) * x8)) &&& 31)) >>> (2 &&& 31)) &&& (31 : Int32))]) (mc := 3) (ms := 18) cx (c_L_name l hl g D cy hdk h) k_L_153 (by decide) ⟨rfl, rfl⟩ ⟨(ob1 (c := c9) (d := 9) hc9 hcm rfl), (ob1 (c := s9) (d := 54) hs9 hsm rfl)⟩ rfl rfl (Nat.le_of_ble_eq_true rfl) dL_takes_173 (fun v9 w hp => ?_)
                obtain ⟨r_24, z_25, rfl, hdk, h⟩ := hp
                refine v_st (st' := [.int r_24, .int r_22, .int ((x7 + y_8) + y_20)]) rfl ?_
                refine v_lv (lv' := [(0, .ref q_p0), (1, .int x1), (2, .int x2), (3, .int x3), (4, .int x4), (5, .int x5), (6, .int x6), (7, .int ((x7 + y_8) + y_20)), (8, .int x8), (9, .int (x3 >>> (((3 : Int32) + ((3 : Int32) * x8)) &&& 31)))]) [1, 2, 3, 4, 5, 6, 7, 0, 8, 9] rfl ?_
                refine v_widen (k9 := (c9 + 9)) (n9 := (s9 + 54)) (ob3 (c := c9) (d := 9) (e := 9) rfl) (ob3 (c := s9) (d := 54) (e := 54) rfl) ?_
                exact hj176 r_24 z_25 _ h hdk
              · refine v_lv (lv' := [(0, .ref q_p0), (1, .int x1), (2, .int x2), (3, .int x3), (4, .int x4), (5, .int x5), (6, .int x6), (7, .int ((x7 + y_8) + y_20)), (8, .int x8), (9, .int (x3 >>> (((3 : Int32) + ((3 : Int32) * x8)) &&& 31)))]) [1, 2, 3, 4, 5, 6, 7, 0, 8, 9] rfl ?_
                refine v_widen (k9 := (c9 + 6)) (n9 := (s9 + 36)) (ob3 (c := c9) (d := 6) (e := 6) rfl) (ob3 (c := s9) (d := 36) (e := 36) rfl) ?_
                exact hj156 _ h hdk
          refine v_if_ne (tgt := 116) cx dL_takes_104 (by decide) h (fun h => ?_) (fun h => ?_)
          · refine v_aload_n cx dL_takes_116 rfl 1 rfl ?_
            refine v_iload cx dL_takes_117 9 rfl ?_
            refine v_bipush (v := 31) cx dL_takes_119 (by decide) ?_
            refine v_iand cx dL_takes_121 ?_
            refine v_callSall2 (As := [.ref q_p0, .int ((x3 >>> (((3 : Int32) + ((3 : Int32) * x8)) &&& 31)) &&& (31 : Int32))]) (mc := 3) (ms := 18) cx (c_L_name l hl g D cy hdk h) k_L_153 (by decide) ⟨rfl, rfl⟩ ⟨(ob1 (c := c9) (d := 5) hc9 hcm rfl), (ob1 (c := s9) (d := 30) hs9 hsm rfl)⟩ rfl rfl (Nat.le_of_ble_eq_true rfl) dL_takes_122 (fun v9 w hp => ?_)
            obtain ⟨r_16, z_17, rfl, hdk, h⟩ := hp
            refine v_st (st' := [.int r_16, .int (x7 + y_8)]) rfl ?_
            refine v_lv (lv' := [(0, .ref q_p0), (1, .int x1), (2, .int x2), (3, .int x3), (4, .int x4), (5, .int x5), (6, .int x6), (7, .int (x7 + y_8)), (8, .int x8), (9, .int (x3 >>> (((3 : Int32) + ((3 : Int32) * x8)) &&& 31)))]) [1, 2, 3, 4, 5, 6, 7, 0, 8, 9] rfl ?_
            refine v_widen (k9 := (c9 + 5)) (n9 := (s9 + 30)) (ob3 (c := c9) (d := 5) (e := 5) rfl) (ob3 (c := s9) (d := 30) (e := 30) rfl) ?_
            exact hj125 r_16 z_17 _ h hdk
          · refine v_aload_n cx dL_takes_107 rfl 1 rfl ?_
            refine v_bipush (v := 42) cx dL_takes_108 (by decide) ?_
            refine v_callSall2 (As := [.ref q_p0, .int (42 : Int32)]) (mc := 1) (ms := 6) cx (c_L_put l hl g D cy hdk h) k_L_147 (by decide) ⟨rfl, rfl⟩ ⟨(ob1 (c := c9) (d := 3) hc9 hcm rfl), (ob1 (c := s9) (d := 18) hs9 hsm rfl)⟩ rfl rfl (Nat.le_of_ble_eq_true rfl) dL_takes_110 (fun v9 w hp => ?_)
            obtain ⟨r_18, z_19, rfl, hdk, h⟩ := hp
            refine v_st (st' := [.int r_18, .int (x7 + y_8)]) rfl ?_
            refine v_goto (tgt := 125) cx dL_takes_113 (by decide) ?_
            refine v_lv (lv' := [(0, .ref q_p0), (1, .int x1), (2, .int x2), (3, .int x3), (4, .int x4), (5, .int x5), (6, .int x6), (7, .int (x7 + y_8)), (8, .int x8), (9, .int (x3 >>> (((3 : Int32) + ((3 : Int32) * x8)) &&& 31)))]) [1, 2, 3, 4, 5, 6, 7, 0, 8, 9] rfl ?_
            refine v_widen (k9 := (c9 + 5)) (n9 := (s9 + 30)) (ob3 (c := c9) (d := 3) (e := 5) rfl) (ob3 (c := s9) (d := 18) (e := 30) rfl) ?_
            exact hj125 r_18 z_19 _ h hdk
      refine v_if_le (tgt := 88) cx dL_takes_69 (by decide) h (fun h => ?_) (fun h => ?_)
      · refine v_iconst (v := 0) cx dL_takes_88 (by decide) ?_
        refine v_lv (lv' := [(0, .ref q_p0), (1, .int x1), (2, .int x2), (3, .int x3), (4, .int x4), (5, .int x5), (6, .int x6), (7, .int x7), (8, .int x8), (9, .int (x3 >>> (((3 : Int32) + ((3 : Int32) * x8)) &&& 31)))]) [1, 2, 3, 4, 5, 6, 7, 8, 9, 0] rfl ?_
        refine v_widen (k9 := (c9 + 2)) (n9 := (s9 + 12)) (ob3 (c := c9) (d := 0) (e := 2) rfl) (ob3 (c := s9) (d := 0) (e := 12) rfl) ?_
        exact hj89 0 z _ h hdk
      · refine v_aload_n cx dL_takes_72 rfl 1 rfl ?_
        refine v_bipush (v := 44) cx dL_takes_73 (by decide) ?_
        refine v_callSall2 (As := [.ref q_p0, .int (44 : Int32)]) (mc := 1) (ms := 6) cx (c_L_put l hl g D cy hdk h) k_L_147 (by decide) ⟨rfl, rfl⟩ ⟨(ob1 (c := c9) (d := 1) hc9 hcm rfl), (ob1 (c := s9) (d := 6) hs9 hsm rfl)⟩ rfl rfl (Nat.le_of_ble_eq_true rfl) dL_takes_75 (fun v9 w hp => ?_)
        obtain ⟨r_4, z_5, rfl, hdk, h⟩ := hp
        refine v_st (st' := [.int r_4, .int x7]) rfl ?_
        refine v_aload_n cx dL_takes_78 rfl 1 rfl ?_
        refine v_bipush (v := 32) cx dL_takes_79 (by decide) ?_
        refine v_callSall2 (As := [.ref q_p0, .int (32 : Int32)]) (mc := 1) (ms := 6) cx (c_L_put l hl g D cy hdk h) k_L_147 (by decide) ⟨rfl, rfl⟩ ⟨(ob1 (c := c9) (d := 2) hc9 hcm rfl), (ob1 (c := s9) (d := 12) hs9 hsm rfl)⟩ rfl rfl (Nat.le_of_ble_eq_true rfl) dL_takes_81 (fun v9 w hp => ?_)
        obtain ⟨r_6, z_7, rfl, hdk, h⟩ := hp
        refine v_st (st' := [.int r_6, .int r_4, .int x7]) rfl ?_
        refine v_iadd cx dL_takes_84 ?_
        refine v_goto (tgt := 89) cx dL_takes_85 (by decide) ?_
        refine v_lv (lv' := [(0, .ref q_p0), (1, .int x1), (2, .int x2), (3, .int x3), (4, .int x4), (5, .int x5), (6, .int x6), (7, .int x7), (8, .int x8), (9, .int (x3 >>> (((3 : Int32) + ((3 : Int32) * x8)) &&& 31)))]) [1, 2, 3, 4, 5, 6, 7, 8, 9, 0] rfl ?_
        refine v_widen (k9 := (c9 + 2)) (n9 := (s9 + 12)) (ob3 (c := c9) (d := 2) (e := 2) rfl) (ob3 (c := s9) (d := 12) (e := 12) rfl) ?_
        exact hj89 (r_4 + r_6) z_7 _ h hdk
set_option maxHeartbeats 40000000 in
set_option maxRecDepth 100000 in
theorem c_L_takes (l : Launch) (hl : l.stackTraces = false) (g : gT) (D : va_G) (cy : Nat → ClassId) {q_p0 : Nat} {z : DS} {x1 : Int32} {x2 : Int32} {x3 : Int32} {w : va_W} {Q : Int32 → DS → Prop} (hdk : DK cy q_p0 z w) (h : p_L_takes z x1 x2 x3 Q) : UC l yL_takes cL_takes 10 (some .boolean) rm_L_takes g D cy [.ref q_p0, .int x1, .int x2, .int x3] w (fun v w => ∃ (r : Int32) (z' : DS), v = some (.int r) ∧ DK cy q_p0 z' w ∧ Q r z') := by
  refine UC_of (by decide +kernel) (Nat.le_of_ble_eq_true rfl) [(0, .ref q_p0), (1, .int x1), (2, .int x2), (3, .int x3)] rfl (fun p e s m args below meth c A cx => ?_)
  unfold p_L_takes at h
  refine v_aload_n cx dL_takes_0 rfl 0 rfl ?_
  refine a_clearText cx (by decide) ⟨(Nat.le_of_ble_eq_true rfl), (Nat.le_of_ble_eq_true rfl)⟩ (Nat.le_of_ble_eq_true rfl) dL_takes_1 hdk (fun r_1 z_2 w hS hI hdk => ?_)
  have h := h r_1 z_2 hS hI
  refine v_pop cx dL_takes_4 rfl ?_
  refine v_iload_n cx dL_takes_5 rfl 3 rfl ?_
  refine v_iconst (v := 5) cx dL_takes_6 (by decide) ?_
  refine a_low cx (by decide) ⟨(Nat.le_of_ble_eq_true rfl), (Nat.le_of_ble_eq_true rfl)⟩ (Nat.le_of_ble_eq_true rfl) dL_takes_7 (by decide) ?_
  refine v_istore (lv' := [(4, .int (lowW x3 (5 : Int32) : Int32)), (0, .ref q_p0), (1, .int x1), (2, .int x2), (3, .int x3)]) cx dL_takes_10 (by decide) rfl ?_
  refine v_aload_n cx dL_takes_12 rfl 1 rfl ?_
  refine v_iconst (v := 4) cx dL_takes_13 (by decide) ?_
  refine v_iload_n cx dL_takes_14 rfl 2 rfl ?_
  refine v_iadd cx dL_takes_15 ?_
  refine a_whole cx hl (by decide) ⟨(Nat.le_of_ble_eq_true rfl), (Nat.le_of_ble_eq_true rfl)⟩ (Nat.le_of_ble_eq_true rfl) dL_takes_16 hdk (fun w hdk => ?_)
  refine v_istore (lv' := [(5, .int (q_whole z_2 ((4 : Int32) + x1) : Int32)), (4, .int (lowW x3 (5 : Int32) : Int32)), (0, .ref q_p0), (1, .int x1), (2, .int x2), (3, .int x3)]) cx dL_takes_19 (by decide) rfl ?_
  refine v_iconst (v := 0) cx dL_takes_21 (by decide) ?_
  refine v_istore (lv' := [(6, .int 0), (5, .int (q_whole z_2 ((4 : Int32) + x1) : Int32)), (4, .int (lowW x3 (5 : Int32) : Int32)), (0, .ref q_p0), (1, .int x1), (2, .int x2), (3, .int x3)]) cx dL_takes_22 (by decide) rfl ?_
  refine v_lv (lv' := [(0, .ref q_p0), (1, .int x1), (2, .int x2), (3, .int x3), (4, .int (lowW x3 (5 : Int32) : Int32)), (5, .int (q_whole z_2 ((4 : Int32) + x1) : Int32)), (6, .int 0)]) [3, 4, 5, 6, 2, 1, 0] rfl ?_
  refine w_L_takes_24 cx hl (cm := 12) (sm := 72) (Nat.le_of_ble_eq_true rfl) (Nat.le_of_ble_eq_true rfl) ?_ 11 _ _ (Nat.le_refl _) (Nat.le_refl _) _ _ h hdk
  · intro x6_3 w h hdk
    refine v_iconst (v := 0) cx dL_takes_42 (by decide) ?_
    refine v_istore (lv' := [(7, .int 0), (0, .ref q_p0), (1, .int x1), (2, .int x2), (3, .int x3), (4, .int (lowW x3 (5 : Int32) : Int32)), (5, .int (q_whole z_2 ((4 : Int32) + x1) : Int32)), (6, .int x6_3)]) cx dL_takes_43 (by decide) rfl ?_
    refine v_iconst (v := 0) cx dL_takes_45 (by decide) ?_
    refine v_istore (lv' := [(8, .int 0), (7, .int 0), (0, .ref q_p0), (1, .int x1), (2, .int x2), (3, .int x3), (4, .int (lowW x3 (5 : Int32) : Int32)), (5, .int (q_whole z_2 ((4 : Int32) + x1) : Int32)), (6, .int x6_3)]) cx dL_takes_46 (by decide) rfl ?_
    refine v_lv (lv' := [(0, .ref q_p0), (1, .int x1), (2, .int x2), (3, .int x3), (4, .int (lowW x3 (5 : Int32) : Int32)), (5, .int (q_whole z_2 ((4 : Int32) + x1) : Int32)), (6, .int x6_3), (7, .int 0), (8, .int 0)]) [2, 3, 4, 5, 6, 7, 8, 1, 0] rfl ?_
    refine w_L_takes_48 cx hl (cm := 87) (sm := 522) (Nat.le_of_ble_eq_true rfl) (Nat.le_of_ble_eq_true rfl) ?_ 5 _ _ (Nat.le_refl _) (Nat.le_refl _) _ _ _ _ h hdk
    · intro x7_46 x8_47 z_48 w h hdk
      refine v_aload_n cx dL_takes_302 rfl 0 rfl ?_
      refine v_iload_n cx dL_takes_303 rfl 2 rfl ?_
      refine a_listFault cx hl (by decide) ⟨(Nat.le_of_ble_eq_true rfl), (Nat.le_of_ble_eq_true rfl)⟩ (Nat.le_of_ble_eq_true rfl) dL_takes_304 hdk (fun w hdk => ?_)
      refine v_iconst (v := (-1)) cx dL_takes_307 (by decide) ?_
      refine v_icmp_ne (tgt := 365) cx dL_takes_308 (by decide) h (fun h => ?_) (fun h => ?_)
      · refine v_iconst (v := 0) cx dL_takes_365 (by decide) ?_
        refine v_widen (k9 := 95) (n9 := 570) (Nat.le_of_ble_eq_true rfl) (Nat.le_of_ble_eq_true rfl) ?_
        exact v_ireturn cx rfl dL_takes_366 ⟨_, _, rfl, hdk, h⟩
      · refine v_aload_n cx dL_takes_311 rfl 0 rfl ?_
        refine v_bipush (v := 6) cx dL_takes_312 (by decide) ?_
        refine a_whole cx hl (by decide) ⟨(Nat.le_of_ble_eq_true rfl), (Nat.le_of_ble_eq_true rfl)⟩ (Nat.le_of_ble_eq_true rfl) dL_takes_314 hdk (fun w hdk => ?_)
        refine v_iload cx dL_takes_317 7 rfl ?_
        refine v_icmp_ne (tgt := 365) cx dL_takes_319 (by decide) h (fun h => ?_) (fun h => ?_)
        · refine v_iconst (v := 0) cx dL_takes_365 (by decide) ?_
          refine v_widen (k9 := 95) (n9 := 570) (Nat.le_of_ble_eq_true rfl) (Nat.le_of_ble_eq_true rfl) ?_
          exact v_ireturn cx rfl dL_takes_366 ⟨_, _, rfl, hdk, h⟩
        · refine v_aload_n cx dL_takes_322 rfl 0 rfl ?_
          refine v_iload_n cx dL_takes_323 rfl 1 rfl ?_
          refine v_iload_n cx dL_takes_324 rfl 2 rfl ?_
          refine a_takeList cx hl (by decide) ⟨(Nat.le_of_ble_eq_true rfl), (Nat.le_of_ble_eq_true rfl)⟩ (Nat.le_of_ble_eq_true rfl) dL_takes_325 hdk (fun r_49 z_50 w hS hI hdk => ?_)
          have h := h r_49 z_50 hS hI
          refine v_iload cx dL_takes_328 4 rfl ?_
          refine v_icmp_ne (tgt := 365) cx dL_takes_330 (by decide) h (fun h => ?_) (fun h => ?_)
          · refine v_iconst (v := 0) cx dL_takes_365 (by decide) ?_
            refine v_widen (k9 := 95) (n9 := 570) (Nat.le_of_ble_eq_true rfl) (Nat.le_of_ble_eq_true rfl) ?_
            exact v_ireturn cx rfl dL_takes_366 ⟨_, _, rfl, hdk, h⟩
          · refine v_aload_n cx dL_takes_333 rfl 0 rfl ?_
            refine v_iconst (v := 4) cx dL_takes_334 (by decide) ?_
            refine v_iload_n cx dL_takes_335 rfl 1 rfl ?_
            refine v_iadd cx dL_takes_336 ?_
            refine a_whole cx hl (by decide) ⟨(Nat.le_of_ble_eq_true rfl), (Nat.le_of_ble_eq_true rfl)⟩ (Nat.le_of_ble_eq_true rfl) dL_takes_337 hdk (fun w hdk => ?_)
            refine v_iload cx dL_takes_340 5 rfl ?_
            refine v_iload cx dL_takes_342 6 rfl ?_
            refine v_isub cx dL_takes_344 ?_
            refine v_iload cx dL_takes_345 4 rfl ?_
            refine v_iadd cx dL_takes_347 ?_
            refine v_icmp_ne (tgt := 365) cx dL_takes_348 (by decide) h (fun h => ?_) (fun h => ?_)
            · refine v_iconst (v := 0) cx dL_takes_365 (by decide) ?_
              refine v_widen (k9 := 95) (n9 := 570) (Nat.le_of_ble_eq_true rfl) (Nat.le_of_ble_eq_true rfl) ?_
              exact v_ireturn cx rfl dL_takes_366 ⟨_, _, rfl, hdk, h⟩
            · refine v_aload_n cx dL_takes_351 rfl 0 rfl ?_
              refine v_iload_n cx dL_takes_352 rfl 1 rfl ?_
              refine v_iload_n cx dL_takes_353 rfl 2 rfl ?_
              refine v_iload cx dL_takes_354 4 rfl ?_
              refine v_iconst (v := 0) cx dL_takes_356 (by decide) ?_
              refine a_entry cx hl (by decide) ⟨(Nat.le_of_ble_eq_true rfl), (Nat.le_of_ble_eq_true rfl)⟩ (Nat.le_of_ble_eq_true rfl) dL_takes_357 hdk (fun w hdk => ?_)
              refine v_ldc cx dL_takes_360 wK_L_26 ?_
              refine v_icmp_eq (tgt := 367) cx dL_takes_362 (by decide) h (fun h => ?_) (fun h => ?_)
              · refine v_iload_n cx dL_takes_367 rfl 3 rfl ?_
                refine v_bipush (v := 20) cx dL_takes_368 (by decide) ?_
                refine v_ishr cx dL_takes_370 ?_
                refine v_iconst (v := 4) cx dL_takes_371 (by decide) ?_
                refine a_low cx (by decide) ⟨(Nat.le_of_ble_eq_true rfl), (Nat.le_of_ble_eq_true rfl)⟩ (Nat.le_of_ble_eq_true rfl) dL_takes_372 (by decide) ?_
                have hj408 : ∀ (z_53 : DS) (w : va_W), p_L_takes_j408 Q z_53 → DK cy q_p0 z_53 w → vV p l e rm_L_takes s m args below meth c (MQ below (uQ D A (fun v w => ∃ (r : Int32) (z' : DS), v = some (.int r) ∧ DK cy q_p0 z' w ∧ Q r z')) args s rm_L_takes.cells rm_L_takes.slots A) 10 D A 95 570 w 408 [(0, .ref q_p0), (1, .int x1), (2, .int x2), (3, .int x3), (4, .int (lowW x3 (5 : Int32) : Int32)), (5, .int (q_whole z_2 ((4 : Int32) + x1) : Int32)), (6, .int x6_3), (7, .int x7_46), (8, .int x8_47)] [] := by
                  intro z_53 w h hdk
                  unfold p_L_takes_j408 at h
                  refine v_iconst (v := 1) cx dL_takes_408 (by decide) ?_
                  refine v_goto (tgt := 413) cx dL_takes_409 (by decide) ?_
                  refine v_widen (k9 := 95) (n9 := 570) (Nat.le_of_ble_eq_true rfl) (Nat.le_of_ble_eq_true rfl) ?_
                  exact v_ireturn cx rfl dL_takes_413 ⟨_, _, rfl, hdk, h⟩
                refine v_if_gt (tgt := 408) cx dL_takes_375 (by decide) h (fun h => ?_) (fun h => ?_)
                · refine v_lv (lv' := [(0, .ref q_p0), (1, .int x1), (2, .int x2), (3, .int x3), (4, .int (lowW x3 (5 : Int32) : Int32)), (5, .int (q_whole z_2 ((4 : Int32) + x1) : Int32)), (6, .int x6_3), (7, .int x7_46), (8, .int x8_47)]) [0, 1, 2, 3, 4, 5, 6, 7, 8] rfl ?_
                  refine v_widen (k9 := 95) (n9 := 570) (Nat.le_of_ble_eq_true rfl) (Nat.le_of_ble_eq_true rfl) ?_
                  exact hj408 z_50 _ h hdk
                · refine v_aload_n cx dL_takes_378 rfl 0 rfl ?_
                  refine a_undo cx hl (by decide) ⟨(Nat.le_of_ble_eq_true rfl), (Nat.le_of_ble_eq_true rfl)⟩ (Nat.le_of_ble_eq_true rfl) dL_takes_379 hdk (fun r_51 z_52 w hS hI hdk => ?_)
                  have h := h r_51 z_52 hS hI
                  refine v_if_lt (tgt := 412) cx dL_takes_382 (by decide) h (fun h => ?_) (fun h => ?_)
                  · refine v_iconst (v := 0) cx dL_takes_412 (by decide) ?_
                    refine v_widen (k9 := 95) (n9 := 570) (Nat.le_of_ble_eq_true rfl) (Nat.le_of_ble_eq_true rfl) ?_
                    exact v_ireturn cx rfl dL_takes_413 ⟨_, _, rfl, hdk, h⟩
                  · refine v_aload_n cx dL_takes_385 rfl 0 rfl ?_
                    refine v_iconst (v := 4) cx dL_takes_386 (by decide) ?_
                    refine v_iload_n cx dL_takes_387 rfl 1 rfl ?_
                    refine v_iadd cx dL_takes_388 ?_
                    refine a_whole cx hl (by decide) ⟨(Nat.le_of_ble_eq_true rfl), (Nat.le_of_ble_eq_true rfl)⟩ (Nat.le_of_ble_eq_true rfl) dL_takes_389 hdk (fun w hdk => ?_)
                    refine v_iload cx dL_takes_392 5 rfl ?_
                    refine v_icmp_ne (tgt := 412) cx dL_takes_394 (by decide) h (fun h => ?_) (fun h => ?_)
                    · refine v_iconst (v := 0) cx dL_takes_412 (by decide) ?_
                      refine v_widen (k9 := 95) (n9 := 570) (Nat.le_of_ble_eq_true rfl) (Nat.le_of_ble_eq_true rfl) ?_
                      exact v_ireturn cx rfl dL_takes_413 ⟨_, _, rfl, hdk, h⟩
                    · refine v_aload_n cx dL_takes_397 rfl 0 rfl ?_
                      refine v_bipush (v := 6) cx dL_takes_398 (by decide) ?_
                      refine a_whole cx hl (by decide) ⟨(Nat.le_of_ble_eq_true rfl), (Nat.le_of_ble_eq_true rfl)⟩ (Nat.le_of_ble_eq_true rfl) dL_takes_400 hdk (fun w hdk => ?_)
                      refine v_iload cx dL_takes_403 7 rfl ?_
                      refine v_icmp_ne (tgt := 412) cx dL_takes_405 (by decide) h (fun h => ?_) (fun h => ?_)
                      · refine v_iconst (v := 0) cx dL_takes_412 (by decide) ?_
                        refine v_widen (k9 := 95) (n9 := 570) (Nat.le_of_ble_eq_true rfl) (Nat.le_of_ble_eq_true rfl) ?_
                        exact v_ireturn cx rfl dL_takes_413 ⟨_, _, rfl, hdk, h⟩
                      · refine v_lv (lv' := [(0, .ref q_p0), (1, .int x1), (2, .int x2), (3, .int x3), (4, .int (lowW x3 (5 : Int32) : Int32)), (5, .int (q_whole z_2 ((4 : Int32) + x1) : Int32)), (6, .int x6_3), (7, .int x7_46), (8, .int x8_47)]) [0, 1, 2, 3, 4, 5, 6, 7, 8] rfl ?_
                        refine v_widen (k9 := 95) (n9 := 570) (Nat.le_of_ble_eq_true rfl) (Nat.le_of_ble_eq_true rfl) ?_
                        exact hj408 z_52 _ h hdk
              · refine v_iconst (v := 0) cx dL_takes_365 (by decide) ?_
                refine v_widen (k9 := 95) (n9 := 570) (Nat.le_of_ble_eq_true rfl) (Nat.le_of_ble_eq_true rfl) ?_
                exact v_ireturn cx rfl dL_takes_366 ⟨_, _, rfl, hdk, h⟩

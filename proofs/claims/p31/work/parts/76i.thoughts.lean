abbrev rm_L_thoughts : Room := { frames := 8, cells := 17, slots := 102, locals := 182 }
set_option maxHeartbeats 40000000 in
set_option maxRecDepth 100000 in
theorem c_L_thoughts (l : Launch) (hl : l.stackTraces = false) (g : gT) (D : va_G) (cy : Nat → ClassId) {q_p0 : Nat} {z : DS} {x1 : Int32} {w : va_W} {Q : Int32 → DS → Prop} (hdk : DK cy q_p0 z w) (h : p_L_thoughts z x1 Q) : UC l yL_thoughts cL_thoughts 15 (some .boolean) rm_L_thoughts g D cy [.ref q_p0, .int x1] w (fun v w => ∃ (r : Int32) (z' : DS), v = some (.int r) ∧ DK cy q_p0 z' w ∧ Q r z') := by
  refine UC_of (by decide +kernel) (Nat.le_of_ble_eq_true rfl) [(0, .ref q_p0), (1, .int x1)] rfl (fun p e s m args below meth c A cx => ?_)
  unfold p_L_thoughts at h
  refine v_aload_n cx dL_thoughts_0 rfl 0 rfl ?_
  refine a_digest cx (by decide) ⟨(Nat.le_of_ble_eq_true rfl), (Nat.le_of_ble_eq_true rfl)⟩ (Nat.le_of_ble_eq_true rfl) dL_thoughts_1 hdk (fun w hdk => ?_)
  refine v_lstore_n (lv' := [(2, .long (q_digest z : Int64)), (0, .ref q_p0), (1, .int x1)]) cx dL_thoughts_4 rfl (by decide) rfl ?_
  refine v_aload_n cx dL_thoughts_5 rfl 1 rfl ?_
  refine v_iconst (v := 0) cx dL_thoughts_6 (by decide) ?_
  refine a_whole cx hl (by decide) ⟨(Nat.le_of_ble_eq_true rfl), (Nat.le_of_ble_eq_true rfl)⟩ (Nat.le_of_ble_eq_true rfl) dL_thoughts_7 hdk (fun w hdk => ?_)
  refine v_istore (lv' := [(4, .int (q_whole z (0 : Int32) : Int32)), (2, .long (q_digest z : Int64)), (0, .ref q_p0), (1, .int x1)]) cx dL_thoughts_10 (by decide) rfl ?_
  refine v_iload cx dL_thoughts_12 0 rfl ?_
  refine v_if_ne (tgt := 68) cx dL_thoughts_14 (by decide) h (fun h => ?_) (fun h => ?_)
  · refine v_iload_n cx dL_thoughts_68 rfl 3 rfl ?_
    refine v_iload cx dL_thoughts_69 0 rfl ?_
    refine a_low cx (by decide) ⟨(Nat.le_of_ble_eq_true rfl), (Nat.le_of_ble_eq_true rfl)⟩ (Nat.le_of_ble_eq_true rfl) dL_thoughts_71 h.1 ?_
    have h := h.2
    refine v_istore (lv' := [(5, .int (lowW x1 (q_whole z (0 : Int32) : Int32) : Int32)), (4, .int (q_whole z (0 : Int32) : Int32)), (2, .long (q_digest z : Int64)), (0, .ref q_p0), (1, .int x1)]) cx dL_thoughts_74 (by decide) rfl ?_
    refine v_aload_n cx dL_thoughts_76 rfl 3 rfl ?_
    refine v_iconst (v := 2) cx dL_thoughts_77 (by decide) ?_
    refine a_whole cx hl (by decide) ⟨(Nat.le_of_ble_eq_true rfl), (Nat.le_of_ble_eq_true rfl)⟩ (Nat.le_of_ble_eq_true rfl) dL_thoughts_78 hdk (fun w hdk => ?_)
    refine v_istore (lv' := [(6, .int (q_whole z (2 : Int32) : Int32)), (5, .int (lowW x1 (q_whole z (0 : Int32) : Int32) : Int32)), (4, .int (q_whole z (0 : Int32) : Int32)), (2, .long (q_digest z : Int64)), (0, .ref q_p0), (1, .int x1)]) cx dL_thoughts_81 (by decide) rfl ?_
    refine v_aload_n cx dL_thoughts_83 rfl 4 rfl ?_
    refine v_iload cx dL_thoughts_84 1 rfl ?_
    refine a_servedWithout cx hl (by decide) ⟨(Nat.le_of_ble_eq_true rfl), (Nat.le_of_ble_eq_true rfl)⟩ (Nat.le_of_ble_eq_true rfl) dL_thoughts_86 hdk (fun w hdk => ?_)
    refine v_istore (lv' := [(7, .int (q_servedWithout z (lowW x1 (q_whole z (0 : Int32) : Int32) : Int32) : Int32)), (6, .int (q_whole z (2 : Int32) : Int32)), (5, .int (lowW x1 (q_whole z (0 : Int32) : Int32) : Int32)), (4, .int (q_whole z (0 : Int32) : Int32)), (2, .long (q_digest z : Int64)), (0, .ref q_p0), (1, .int x1)]) cx dL_thoughts_89 (by decide) rfl ?_
    refine v_aload_n cx dL_thoughts_91 rfl 5 rfl ?_
    refine v_iload cx dL_thoughts_92 2 rfl ?_
    refine a_leastQuality cx hl (by decide) ⟨(Nat.le_of_ble_eq_true rfl), (Nat.le_of_ble_eq_true rfl)⟩ (Nat.le_of_ble_eq_true rfl) dL_thoughts_94 hdk (fun w hdk => ?_)
    refine v_istore (lv' := [(8, .int (q_leastQuality z (lowW x1 (q_whole z (0 : Int32) : Int32) : Int32) : Int32)), (7, .int (q_servedWithout z (lowW x1 (q_whole z (0 : Int32) : Int32) : Int32) : Int32)), (6, .int (q_whole z (2 : Int32) : Int32)), (5, .int (lowW x1 (q_whole z (0 : Int32) : Int32) : Int32)), (4, .int (q_whole z (0 : Int32) : Int32)), (2, .long (q_digest z : Int64)), (0, .ref q_p0), (1, .int x1)]) cx dL_thoughts_97 (by decide) rfl ?_
    refine v_aload_n cx dL_thoughts_99 rfl 6 rfl ?_
    refine a_digest cx (by decide) ⟨(Nat.le_of_ble_eq_true rfl), (Nat.le_of_ble_eq_true rfl)⟩ (Nat.le_of_ble_eq_true rfl) dL_thoughts_100 hdk (fun w hdk => ?_)
    refine v_lload_n cx dL_thoughts_103 rfl 5 rfl ?_
    refine v_lcmp cx dL_thoughts_104 ?_
    refine v_if_ne (tgt := 175) cx dL_thoughts_105 (by decide) h (fun h => ?_) (fun h => ?_)
    · refine v_iconst (v := 0) cx dL_thoughts_175 (by decide) ?_
      refine v_widen (k9 := 17) (n9 := 102) (Nat.le_of_ble_eq_true rfl) (Nat.le_of_ble_eq_true rfl) ?_
      exact v_ireturn cx rfl dL_thoughts_176 ⟨_, _, rfl, hdk, h⟩
    · refine v_iload cx dL_thoughts_108 2 rfl ?_
      refine v_iload cx dL_thoughts_110 3 rfl ?_
      have hj122 : ∀ (w : va_W), p_L_thoughts_j122 z x1 Q → DK cy q_p0 z w → vV p l e rm_L_thoughts s m args below meth c (MQ below (uQ D A (fun v w => ∃ (r : Int32) (z' : DS), v = some (.int r) ∧ DK cy q_p0 z' w ∧ Q r z')) args s rm_L_thoughts.cells rm_L_thoughts.slots A) 15 D A 4 24 w 122 [(0, .ref q_p0), (1, .int x1), (2, .long (q_digest z : Int64)), (4, .int (q_whole z (0 : Int32) : Int32)), (5, .int (lowW x1 (q_whole z (0 : Int32) : Int32) : Int32)), (6, .int (q_whole z (2 : Int32) : Int32)), (7, .int (q_servedWithout z (lowW x1 (q_whole z (0 : Int32) : Int32) : Int32) : Int32)), (8, .int (q_leastQuality z (lowW x1 (q_whole z (0 : Int32) : Int32) : Int32) : Int32))] [] := by
        intro w h hdk
        unfold p_L_thoughts_j122 at h
        refine v_iload cx dL_thoughts_122 6 rfl ?_
        refine v_iload cx dL_thoughts_124 4 rfl ?_
        refine v_icmp_eq (tgt := 175) cx dL_thoughts_126 (by decide) h (fun h => ?_) (fun h => ?_)
        · refine v_iconst (v := 0) cx dL_thoughts_175 (by decide) ?_
          refine v_widen (k9 := 17) (n9 := 102) (Nat.le_of_ble_eq_true rfl) (Nat.le_of_ble_eq_true rfl) ?_
          exact v_ireturn cx rfl dL_thoughts_176 ⟨_, _, rfl, hdk, h⟩
        · refine v_iload cx dL_thoughts_129 5 rfl ?_
          refine v_iload cx dL_thoughts_131 4 rfl ?_
          have hj148 : ∀ (w : va_W), p_L_thoughts_j148 z x1 Q → DK cy q_p0 z w → vV p l e rm_L_thoughts s m args below meth c (MQ below (uQ D A (fun v w => ∃ (r : Int32) (z' : DS), v = some (.int r) ∧ DK cy q_p0 z' w ∧ Q r z')) args s rm_L_thoughts.cells rm_L_thoughts.slots A) 15 D A 5 30 w 148 [(0, .ref q_p0), (1, .int x1), (2, .long (q_digest z : Int64)), (4, .int (q_whole z (0 : Int32) : Int32)), (5, .int (lowW x1 (q_whole z (0 : Int32) : Int32) : Int32)), (6, .int (q_whole z (2 : Int32) : Int32)), (7, .int (q_servedWithout z (lowW x1 (q_whole z (0 : Int32) : Int32) : Int32) : Int32)), (8, .int (q_leastQuality z (lowW x1 (q_whole z (0 : Int32) : Int32) : Int32) : Int32))] [] := by
            intro w h hdk
            unfold p_L_thoughts_j148 at h
            refine v_iload cx dL_thoughts_148 7 rfl ?_
            refine v_iconst (v := (-1)) cx dL_thoughts_150 (by decide) ?_
            refine v_icmp_lt (tgt := 175) cx dL_thoughts_151 (by decide) h (fun h => ?_) (fun h => ?_)
            · refine v_iconst (v := 0) cx dL_thoughts_175 (by decide) ?_
              refine v_widen (k9 := 17) (n9 := 102) (Nat.le_of_ble_eq_true rfl) (Nat.le_of_ble_eq_true rfl) ?_
              exact v_ireturn cx rfl dL_thoughts_176 ⟨_, _, rfl, hdk, h⟩
            · refine v_iload cx dL_thoughts_154 7 rfl ?_
              refine v_sipush (v := 1000) cx dL_thoughts_156 (by decide) ?_
              refine v_icmp_gt (tgt := 175) cx dL_thoughts_159 (by decide) h (fun h => ?_) (fun h => ?_)
              · refine v_iconst (v := 0) cx dL_thoughts_175 (by decide) ?_
                refine v_widen (k9 := 17) (n9 := 102) (Nat.le_of_ble_eq_true rfl) (Nat.le_of_ble_eq_true rfl) ?_
                exact v_ireturn cx rfl dL_thoughts_176 ⟨_, _, rfl, hdk, h⟩
              · refine v_iload cx dL_thoughts_162 5 rfl ?_
                refine v_iload cx dL_thoughts_164 4 rfl ?_
                have hj177 : ∀ (w : va_W), p_L_thoughts_j177 z x1 Q → DK cy q_p0 z w → vV p l e rm_L_thoughts s m args below meth c (MQ below (uQ D A (fun v w => ∃ (r : Int32) (z' : DS), v = some (.int r) ∧ DK cy q_p0 z' w ∧ Q r z')) args s rm_L_thoughts.cells rm_L_thoughts.slots A) 15 D A 5 30 w 177 [(0, .ref q_p0), (1, .int x1), (2, .long (q_digest z : Int64)), (4, .int (q_whole z (0 : Int32) : Int32)), (5, .int (lowW x1 (q_whole z (0 : Int32) : Int32) : Int32)), (6, .int (q_whole z (2 : Int32) : Int32)), (7, .int (q_servedWithout z (lowW x1 (q_whole z (0 : Int32) : Int32) : Int32) : Int32)), (8, .int (q_leastQuality z (lowW x1 (q_whole z (0 : Int32) : Int32) : Int32) : Int32))] [] := by
                  intro w h hdk
                  unfold p_L_thoughts_j177 at h
                  refine v_iload cx dL_thoughts_177 7 rfl ?_
                  have hj245 : ∀ (z_5 : DS) (w : va_W), p_L_thoughts_j245 x1 z Q z_5 → DK cy q_p0 z_5 w → vV p l e rm_L_thoughts s m args below meth c (MQ below (uQ D A (fun v w => ∃ (r : Int32) (z' : DS), v = some (.int r) ∧ DK cy q_p0 z' w ∧ Q r z')) args s rm_L_thoughts.cells rm_L_thoughts.slots A) 15 D A 11 66 w 245 [(0, .ref q_p0), (1, .int x1), (2, .long (q_digest z : Int64)), (4, .int (q_whole z (0 : Int32) : Int32)), (5, .int (lowW x1 (q_whole z (0 : Int32) : Int32) : Int32)), (6, .int (q_whole z (2 : Int32) : Int32)), (7, .int (q_servedWithout z (lowW x1 (q_whole z (0 : Int32) : Int32) : Int32) : Int32)), (8, .int (q_leastQuality z (lowW x1 (q_whole z (0 : Int32) : Int32) : Int32) : Int32))] [] := by
                    intro z_5 w h hdk
                    unfold p_L_thoughts_j245 at h
                    refine v_iload_n cx dL_thoughts_245 rfl 1 rfl ?_
                    refine v_iconst (v := 4) cx dL_thoughts_246 (by decide) ?_
                    refine v_ishr cx dL_thoughts_247 ?_
                    refine v_iconst (v := 2) cx dL_thoughts_248 (by decide) ?_
                    refine a_low cx (by decide) ⟨(Nat.le_of_ble_eq_true rfl), (Nat.le_of_ble_eq_true rfl)⟩ (Nat.le_of_ble_eq_true rfl) dL_thoughts_249 (by decide) ?_
                    refine v_istore (lv' := [(9, .int (lowW (x1 >>> (4 &&& 31)) (2 : Int32) : Int32)), (0, .ref q_p0), (1, .int x1), (2, .long (q_digest z : Int64)), (4, .int (q_whole z (0 : Int32) : Int32)), (5, .int (lowW x1 (q_whole z (0 : Int32) : Int32) : Int32)), (6, .int (q_whole z (2 : Int32) : Int32)), (7, .int (q_servedWithout z (lowW x1 (q_whole z (0 : Int32) : Int32) : Int32) : Int32)), (8, .int (q_leastQuality z (lowW x1 (q_whole z (0 : Int32) : Int32) : Int32) : Int32))]) cx dL_thoughts_252 (by decide) rfl ?_
                    refine v_iload_n cx dL_thoughts_254 rfl 2 rfl ?_
                    refine v_iconst (v := 5) cx dL_thoughts_255 (by decide) ?_
                    refine v_ishr cx dL_thoughts_256 ?_
                    refine v_iconst (v := 3) cx dL_thoughts_257 (by decide) ?_
                    refine a_low cx (by decide) ⟨(Nat.le_of_ble_eq_true rfl), (Nat.le_of_ble_eq_true rfl)⟩ (Nat.le_of_ble_eq_true rfl) dL_thoughts_258 (by decide) ?_
                    refine v_istore (lv' := [(10, .int (lowW (x1 >>> (5 &&& 31)) (3 : Int32) : Int32)), (9, .int (lowW (x1 >>> (4 &&& 31)) (2 : Int32) : Int32)), (0, .ref q_p0), (1, .int x1), (2, .long (q_digest z : Int64)), (4, .int (q_whole z (0 : Int32) : Int32)), (5, .int (lowW x1 (q_whole z (0 : Int32) : Int32) : Int32)), (6, .int (q_whole z (2 : Int32) : Int32)), (7, .int (q_servedWithout z (lowW x1 (q_whole z (0 : Int32) : Int32) : Int32) : Int32)), (8, .int (q_leastQuality z (lowW x1 (q_whole z (0 : Int32) : Int32) : Int32) : Int32))]) cx dL_thoughts_261 (by decide) rfl ?_
                    refine v_aload_n cx dL_thoughts_263 rfl 2 rfl ?_
                    refine v_iload cx dL_thoughts_264 1 rfl ?_
                    refine v_iload cx dL_thoughts_266 0 rfl ?_
                    refine v_iconst (v := 0) cx dL_thoughts_268 (by decide) ?_
                    refine v_iconst (v := 0) cx dL_thoughts_269 (by decide) ?_
                    refine a_entry cx hl (by decide) ⟨(Nat.le_of_ble_eq_true rfl), (Nat.le_of_ble_eq_true rfl)⟩ (Nat.le_of_ble_eq_true rfl) dL_thoughts_270 hdk (fun w hdk => ?_)
                    refine v_istore (lv' := [(11, .int (q_entry z_5 (lowW (x1 >>> (4 &&& 31)) (2 : Int32) : Int32) (lowW (x1 >>> (5 &&& 31)) (3 : Int32) : Int32) (0 : Int32) (0 : Int32) : Int32)), (10, .int (lowW (x1 >>> (5 &&& 31)) (3 : Int32) : Int32)), (9, .int (lowW (x1 >>> (4 &&& 31)) (2 : Int32) : Int32)), (0, .ref q_p0), (1, .int x1), (2, .long (q_digest z : Int64)), (4, .int (q_whole z (0 : Int32) : Int32)), (5, .int (lowW x1 (q_whole z (0 : Int32) : Int32) : Int32)), (6, .int (q_whole z (2 : Int32) : Int32)), (7, .int (q_servedWithout z (lowW x1 (q_whole z (0 : Int32) : Int32) : Int32) : Int32)), (8, .int (q_leastQuality z (lowW x1 (q_whole z (0 : Int32) : Int32) : Int32) : Int32))]) cx dL_thoughts_273 (by decide) rfl ?_
                    refine v_iload cx dL_thoughts_275 0 rfl ?_
                    refine v_if_ge (tgt := 302) cx dL_thoughts_277 (by decide) h (fun h => ?_) (fun h => ?_)
                    · refine v_aload_n cx dL_thoughts_302 rfl 3 rfl ?_
                      refine a_digest cx (by decide) ⟨(Nat.le_of_ble_eq_true rfl), (Nat.le_of_ble_eq_true rfl)⟩ (Nat.le_of_ble_eq_true rfl) dL_thoughts_303 hdk (fun w hdk => ?_)
                      refine v_lstore (lv' := [(12, .long (q_digest z_5 : Int64)), (11, .int (q_entry z_5 (lowW (x1 >>> (4 &&& 31)) (2 : Int32) : Int32) (lowW (x1 >>> (5 &&& 31)) (3 : Int32) : Int32) (0 : Int32) (0 : Int32) : Int32)), (10, .int (lowW (x1 >>> (5 &&& 31)) (3 : Int32) : Int32)), (9, .int (lowW (x1 >>> (4 &&& 31)) (2 : Int32) : Int32)), (0, .ref q_p0), (1, .int x1), (2, .long (q_digest z : Int64)), (4, .int (q_whole z (0 : Int32) : Int32)), (5, .int (lowW x1 (q_whole z (0 : Int32) : Int32) : Int32)), (6, .int (q_whole z (2 : Int32) : Int32)), (7, .int (q_servedWithout z (lowW x1 (q_whole z (0 : Int32) : Int32) : Int32) : Int32)), (8, .int (q_leastQuality z (lowW x1 (q_whole z (0 : Int32) : Int32) : Int32) : Int32))]) cx dL_thoughts_306 (by decide) rfl ?_
                      refine v_aload_n cx dL_thoughts_308 rfl 4 rfl ?_
                      refine v_iload cx dL_thoughts_309 3 rfl ?_
                      refine v_iload cx dL_thoughts_311 2 rfl ?_
                      refine v_iconst (v := 0) cx dL_thoughts_313 (by decide) ?_
                      refine v_iload cx dL_thoughts_314 8 rfl ?_
                      refine a_leastWeight cx hl (by decide) ⟨(Nat.le_of_ble_eq_true rfl), (Nat.le_of_ble_eq_true rfl)⟩ (Nat.le_of_ble_eq_true rfl) dL_thoughts_316 hdk (fun w hdk => ?_)
                      refine v_istore (lv' := [(14, .int (q_leastWeight z_5 (lowW (x1 >>> (4 &&& 31)) (2 : Int32) : Int32) (lowW (x1 >>> (5 &&& 31)) (3 : Int32) : Int32) (0 : Int32) (lowW x1 (q_whole z (0 : Int32) : Int32) : Int32) : Int32)), (12, .long (q_digest z_5 : Int64)), (11, .int (q_entry z_5 (lowW (x1 >>> (4 &&& 31)) (2 : Int32) : Int32) (lowW (x1 >>> (5 &&& 31)) (3 : Int32) : Int32) (0 : Int32) (0 : Int32) : Int32)), (10, .int (lowW (x1 >>> (5 &&& 31)) (3 : Int32) : Int32)), (9, .int (lowW (x1 >>> (4 &&& 31)) (2 : Int32) : Int32)), (0, .ref q_p0), (1, .int x1), (2, .long (q_digest z : Int64)), (4, .int (q_whole z (0 : Int32) : Int32)), (5, .int (lowW x1 (q_whole z (0 : Int32) : Int32) : Int32)), (6, .int (q_whole z (2 : Int32) : Int32)), (7, .int (q_servedWithout z (lowW x1 (q_whole z (0 : Int32) : Int32) : Int32) : Int32)), (8, .int (q_leastQuality z (lowW x1 (q_whole z (0 : Int32) : Int32) : Int32) : Int32))]) cx dL_thoughts_319 (by decide) rfl ?_
                      refine v_iload cx dL_thoughts_321 0 rfl ?_
                      refine v_iconst (v := (-1)) cx dL_thoughts_323 (by decide) ?_
                      refine v_icmp_lt (tgt := 364) cx dL_thoughts_324 (by decide) h (fun h => ?_) (fun h => ?_)
                      · refine v_iconst (v := 0) cx dL_thoughts_364 (by decide) ?_
                        refine v_widen (k9 := 17) (n9 := 102) (Nat.le_of_ble_eq_true rfl) (Nat.le_of_ble_eq_true rfl) ?_
                        exact v_ireturn cx rfl dL_thoughts_365 ⟨_, _, rfl, hdk, h⟩
                      · refine v_iload cx dL_thoughts_327 0 rfl ?_
                        refine v_sipush (v := 1000) cx dL_thoughts_329 (by decide) ?_
                        refine v_icmp_gt (tgt := 364) cx dL_thoughts_332 (by decide) h (fun h => ?_) (fun h => ?_)
                        · refine v_iconst (v := 0) cx dL_thoughts_364 (by decide) ?_
                          refine v_widen (k9 := 17) (n9 := 102) (Nat.le_of_ble_eq_true rfl) (Nat.le_of_ble_eq_true rfl) ?_
                          exact v_ireturn cx rfl dL_thoughts_365 ⟨_, _, rfl, hdk, h⟩
                        · refine v_iload cx dL_thoughts_335 10 rfl ?_
                          refine v_iload cx dL_thoughts_337 9 rfl ?_
                          have hj354 : ∀ (w : va_W), p_L_thoughts_j354 z_5 x1 z Q → DK cy q_p0 z_5 w → vV p l e rm_L_thoughts s m args below meth c (MQ below (uQ D A (fun v w => ∃ (r : Int32) (z' : DS), v = some (.int r) ∧ DK cy q_p0 z' w ∧ Q r z')) args s rm_L_thoughts.cells rm_L_thoughts.slots A) 15 D A 13 78 w 354 [(0, .ref q_p0), (1, .int x1), (2, .long (q_digest z : Int64)), (4, .int (q_whole z (0 : Int32) : Int32)), (5, .int (lowW x1 (q_whole z (0 : Int32) : Int32) : Int32)), (6, .int (q_whole z (2 : Int32) : Int32)), (7, .int (q_servedWithout z (lowW x1 (q_whole z (0 : Int32) : Int32) : Int32) : Int32)), (8, .int (q_leastQuality z (lowW x1 (q_whole z (0 : Int32) : Int32) : Int32) : Int32)), (9, .int (lowW (x1 >>> (4 &&& 31)) (2 : Int32) : Int32)), (10, .int (lowW (x1 >>> (5 &&& 31)) (3 : Int32) : Int32)), (11, .int (q_entry z_5 (lowW (x1 >>> (4 &&& 31)) (2 : Int32) : Int32) (lowW (x1 >>> (5 &&& 31)) (3 : Int32) : Int32) (0 : Int32) (0 : Int32) : Int32)), (12, .long (q_digest z_5 : Int64)), (14, .int (q_leastWeight z_5 (lowW (x1 >>> (4 &&& 31)) (2 : Int32) : Int32) (lowW (x1 >>> (5 &&& 31)) (3 : Int32) : Int32) (0 : Int32) (lowW x1 (q_whole z (0 : Int32) : Int32) : Int32) : Int32))] [] := by
                            intro w h hdk
                            unfold p_L_thoughts_j354 at h
                            refine v_aload_n cx dL_thoughts_354 rfl 0 rfl ?_
                            refine a_digest cx (by decide) ⟨(Nat.le_of_ble_eq_true rfl), (Nat.le_of_ble_eq_true rfl)⟩ (Nat.le_of_ble_eq_true rfl) dL_thoughts_355 hdk (fun w hdk => ?_)
                            refine v_lload cx dL_thoughts_358 11 rfl ?_
                            refine v_lcmp cx dL_thoughts_360 ?_
                            refine v_if_eq (tgt := 366) cx dL_thoughts_361 (by decide) h (fun h => ?_) (fun h => ?_)
                            · refine v_iload cx dL_thoughts_366 12 rfl ?_
                              have hj414 : ∀ (z_10 : DS) (w : va_W), p_L_thoughts_j414 Q z_10 → DK cy q_p0 z_10 w → vV p l e rm_L_thoughts s m args below meth c (MQ below (uQ D A (fun v w => ∃ (r : Int32) (z' : DS), v = some (.int r) ∧ DK cy q_p0 z' w ∧ Q r z')) args s rm_L_thoughts.cells rm_L_thoughts.slots A) 15 D A 17 102 w 414 [(0, .ref q_p0), (1, .int x1), (2, .long (q_digest z : Int64)), (4, .int (q_whole z (0 : Int32) : Int32)), (5, .int (lowW x1 (q_whole z (0 : Int32) : Int32) : Int32)), (6, .int (q_whole z (2 : Int32) : Int32)), (7, .int (q_servedWithout z (lowW x1 (q_whole z (0 : Int32) : Int32) : Int32) : Int32)), (8, .int (q_leastQuality z (lowW x1 (q_whole z (0 : Int32) : Int32) : Int32) : Int32)), (9, .int (lowW (x1 >>> (4 &&& 31)) (2 : Int32) : Int32)), (10, .int (lowW (x1 >>> (5 &&& 31)) (3 : Int32) : Int32)), (11, .int (q_entry z_5 (lowW (x1 >>> (4 &&& 31)) (2 : Int32) : Int32) (lowW (x1 >>> (5 &&& 31)) (3 : Int32) : Int32) (0 : Int32) (0 : Int32) : Int32)), (12, .long (q_digest z_5 : Int64)), (14, .int (q_leastWeight z_5 (lowW (x1 >>> (4 &&& 31)) (2 : Int32) : Int32) (lowW (x1 >>> (5 &&& 31)) (3 : Int32) : Int32) (0 : Int32) (lowW x1 (q_whole z (0 : Int32) : Int32) : Int32) : Int32))] [] := by
                                intro z_10 w h hdk
                                unfold p_L_thoughts_j414 at h
                                refine v_iconst (v := 1) cx dL_thoughts_414 (by decide) ?_
                                refine v_goto (tgt := 419) cx dL_thoughts_415 (by decide) ?_
                                refine v_widen (k9 := 17) (n9 := 102) (Nat.le_of_ble_eq_true rfl) (Nat.le_of_ble_eq_true rfl) ?_
                                exact v_ireturn cx rfl dL_thoughts_419 ⟨_, _, rfl, hdk, h⟩
                              refine v_if_lt (tgt := 414) cx dL_thoughts_368 (by decide) h (fun h => ?_) (fun h => ?_)
                              · refine v_lv (lv' := [(0, .ref q_p0), (1, .int x1), (2, .long (q_digest z : Int64)), (4, .int (q_whole z (0 : Int32) : Int32)), (5, .int (lowW x1 (q_whole z (0 : Int32) : Int32) : Int32)), (6, .int (q_whole z (2 : Int32) : Int32)), (7, .int (q_servedWithout z (lowW x1 (q_whole z (0 : Int32) : Int32) : Int32) : Int32)), (8, .int (q_leastQuality z (lowW x1 (q_whole z (0 : Int32) : Int32) : Int32) : Int32)), (9, .int (lowW (x1 >>> (4 &&& 31)) (2 : Int32) : Int32)), (10, .int (lowW (x1 >>> (5 &&& 31)) (3 : Int32) : Int32)), (11, .int (q_entry z_5 (lowW (x1 >>> (4 &&& 31)) (2 : Int32) : Int32) (lowW (x1 >>> (5 &&& 31)) (3 : Int32) : Int32) (0 : Int32) (0 : Int32) : Int32)), (12, .long (q_digest z_5 : Int64)), (14, .int (q_leastWeight z_5 (lowW (x1 >>> (4 &&& 31)) (2 : Int32) : Int32) (lowW (x1 >>> (5 &&& 31)) (3 : Int32) : Int32) (0 : Int32) (lowW x1 (q_whole z (0 : Int32) : Int32) : Int32) : Int32))]) [0, 1, 2, 3, 4, 5, 6, 7, 8, 9, 10, 11, 12] rfl ?_
                                refine v_widen (k9 := 17) (n9 := 102) (Nat.le_of_ble_eq_true rfl) (Nat.le_of_ble_eq_true rfl) ?_
                                exact hj414 z_5 _ h hdk
                              · refine v_aload_n cx dL_thoughts_371 rfl 0 rfl ?_
                                refine v_iload cx dL_thoughts_372 8 rfl ?_
                                refine v_iload cx dL_thoughts_374 9 rfl ?_
                                refine v_iconst (v := 0) cx dL_thoughts_376 (by decide) ?_
                                refine v_iload cx dL_thoughts_377 12 rfl ?_
                                refine a_setWeight cx hl (by decide) ⟨(Nat.le_of_ble_eq_true rfl), (Nat.le_of_ble_eq_true rfl)⟩ (Nat.le_of_ble_eq_true rfl) dL_thoughts_379 hdk (fun r_6 z_7 w hS hI hdk => ?_)
                                have h := h r_6 z_7 hS hI
                                refine v_iload cx dL_thoughts_382 10 rfl ?_
                                refine v_icmp_ne (tgt := 418) cx dL_thoughts_384 (by decide) h (fun h => ?_) (fun h => ?_)
                                · refine v_iconst (v := 0) cx dL_thoughts_418 (by decide) ?_
                                  refine v_widen (k9 := 17) (n9 := 102) (Nat.le_of_ble_eq_true rfl) (Nat.le_of_ble_eq_true rfl) ?_
                                  exact v_ireturn cx rfl dL_thoughts_419 ⟨_, _, rfl, hdk, h⟩
                                · refine v_aload_n cx dL_thoughts_387 rfl 0 rfl ?_
                                  refine v_iconst (v := 2) cx dL_thoughts_388 (by decide) ?_
                                  refine a_whole cx hl (by decide) ⟨(Nat.le_of_ble_eq_true rfl), (Nat.le_of_ble_eq_true rfl)⟩ (Nat.le_of_ble_eq_true rfl) dL_thoughts_389 hdk (fun w hdk => ?_)
                                  refine v_iload cx dL_thoughts_392 4 rfl ?_
                                  refine v_icmp_ne (tgt := 418) cx dL_thoughts_394 (by decide) h (fun h => ?_) (fun h => ?_)
                                  · refine v_iconst (v := 0) cx dL_thoughts_418 (by decide) ?_
                                    refine v_widen (k9 := 17) (n9 := 102) (Nat.le_of_ble_eq_true rfl) (Nat.le_of_ble_eq_true rfl) ?_
                                    exact v_ireturn cx rfl dL_thoughts_419 ⟨_, _, rfl, hdk, h⟩
                                  · refine v_aload_n cx dL_thoughts_397 rfl 0 rfl ?_
                                    refine a_undo cx hl (by decide) ⟨(Nat.le_of_ble_eq_true rfl), (Nat.le_of_ble_eq_true rfl)⟩ (Nat.le_of_ble_eq_true rfl) dL_thoughts_398 hdk (fun r_8 z_9 w hS hI hdk => ?_)
                                    have h := h r_8 z_9 hS hI
                                    refine v_if_lt (tgt := 418) cx dL_thoughts_401 (by decide) h (fun h => ?_) (fun h => ?_)
                                    · refine v_iconst (v := 0) cx dL_thoughts_418 (by decide) ?_
                                      refine v_widen (k9 := 17) (n9 := 102) (Nat.le_of_ble_eq_true rfl) (Nat.le_of_ble_eq_true rfl) ?_
                                      exact v_ireturn cx rfl dL_thoughts_419 ⟨_, _, rfl, hdk, h⟩
                                    · refine v_aload_n cx dL_thoughts_404 rfl 0 rfl ?_
                                      refine v_iconst (v := 2) cx dL_thoughts_405 (by decide) ?_
                                      refine a_whole cx hl (by decide) ⟨(Nat.le_of_ble_eq_true rfl), (Nat.le_of_ble_eq_true rfl)⟩ (Nat.le_of_ble_eq_true rfl) dL_thoughts_406 hdk (fun w hdk => ?_)
                                      refine v_iload cx dL_thoughts_409 5 rfl ?_
                                      refine v_icmp_ne (tgt := 418) cx dL_thoughts_411 (by decide) h (fun h => ?_) (fun h => ?_)
                                      · refine v_iconst (v := 0) cx dL_thoughts_418 (by decide) ?_
                                        refine v_widen (k9 := 17) (n9 := 102) (Nat.le_of_ble_eq_true rfl) (Nat.le_of_ble_eq_true rfl) ?_
                                        exact v_ireturn cx rfl dL_thoughts_419 ⟨_, _, rfl, hdk, h⟩
                                      · refine v_lv (lv' := [(0, .ref q_p0), (1, .int x1), (2, .long (q_digest z : Int64)), (4, .int (q_whole z (0 : Int32) : Int32)), (5, .int (lowW x1 (q_whole z (0 : Int32) : Int32) : Int32)), (6, .int (q_whole z (2 : Int32) : Int32)), (7, .int (q_servedWithout z (lowW x1 (q_whole z (0 : Int32) : Int32) : Int32) : Int32)), (8, .int (q_leastQuality z (lowW x1 (q_whole z (0 : Int32) : Int32) : Int32) : Int32)), (9, .int (lowW (x1 >>> (4 &&& 31)) (2 : Int32) : Int32)), (10, .int (lowW (x1 >>> (5 &&& 31)) (3 : Int32) : Int32)), (11, .int (q_entry z_5 (lowW (x1 >>> (4 &&& 31)) (2 : Int32) : Int32) (lowW (x1 >>> (5 &&& 31)) (3 : Int32) : Int32) (0 : Int32) (0 : Int32) : Int32)), (12, .long (q_digest z_5 : Int64)), (14, .int (q_leastWeight z_5 (lowW (x1 >>> (4 &&& 31)) (2 : Int32) : Int32) (lowW (x1 >>> (5 &&& 31)) (3 : Int32) : Int32) (0 : Int32) (lowW x1 (q_whole z (0 : Int32) : Int32) : Int32) : Int32))]) [0, 1, 2, 3, 4, 5, 6, 7, 8, 9, 10, 11, 12] rfl ?_
                                        refine v_widen (k9 := 17) (n9 := 102) (Nat.le_of_ble_eq_true rfl) (Nat.le_of_ble_eq_true rfl) ?_
                                        exact hj414 z_9 _ h hdk
                            · refine v_iconst (v := 0) cx dL_thoughts_364 (by decide) ?_
                              refine v_widen (k9 := 17) (n9 := 102) (Nat.le_of_ble_eq_true rfl) (Nat.le_of_ble_eq_true rfl) ?_
                              exact v_ireturn cx rfl dL_thoughts_365 ⟨_, _, rfl, hdk, h⟩
                          refine v_icmp_ne (tgt := 354) cx dL_thoughts_339 (by decide) h (fun h => ?_) (fun h => ?_)
                          · refine v_lv (lv' := [(0, .ref q_p0), (1, .int x1), (2, .long (q_digest z : Int64)), (4, .int (q_whole z (0 : Int32) : Int32)), (5, .int (lowW x1 (q_whole z (0 : Int32) : Int32) : Int32)), (6, .int (q_whole z (2 : Int32) : Int32)), (7, .int (q_servedWithout z (lowW x1 (q_whole z (0 : Int32) : Int32) : Int32) : Int32)), (8, .int (q_leastQuality z (lowW x1 (q_whole z (0 : Int32) : Int32) : Int32) : Int32)), (9, .int (lowW (x1 >>> (4 &&& 31)) (2 : Int32) : Int32)), (10, .int (lowW (x1 >>> (5 &&& 31)) (3 : Int32) : Int32)), (11, .int (q_entry z_5 (lowW (x1 >>> (4 &&& 31)) (2 : Int32) : Int32) (lowW (x1 >>> (5 &&& 31)) (3 : Int32) : Int32) (0 : Int32) (0 : Int32) : Int32)), (12, .long (q_digest z_5 : Int64)), (14, .int (q_leastWeight z_5 (lowW (x1 >>> (4 &&& 31)) (2 : Int32) : Int32) (lowW (x1 >>> (5 &&& 31)) (3 : Int32) : Int32) (0 : Int32) (lowW x1 (q_whole z (0 : Int32) : Int32) : Int32) : Int32))]) [5, 6, 7, 8, 9, 10, 11, 12, 4, 3, 2, 1, 0] rfl ?_
                            refine v_widen (k9 := 13) (n9 := 78) (Nat.le_of_ble_eq_true rfl) (Nat.le_of_ble_eq_true rfl) ?_
                            exact hj354 _ h hdk
                          · refine v_iload cx dL_thoughts_342 0 rfl ?_
                            refine v_if_lt (tgt := 364) cx dL_thoughts_344 (by decide) h (fun h => ?_) (fun h => ?_)
                            · refine v_iconst (v := 0) cx dL_thoughts_364 (by decide) ?_
                              refine v_widen (k9 := 17) (n9 := 102) (Nat.le_of_ble_eq_true rfl) (Nat.le_of_ble_eq_true rfl) ?_
                              exact v_ireturn cx rfl dL_thoughts_365 ⟨_, _, rfl, hdk, h⟩
                            · refine v_iload cx dL_thoughts_347 0 rfl ?_
                              refine v_iload cx dL_thoughts_349 2 rfl ?_
                              refine v_icmp_gt (tgt := 364) cx dL_thoughts_351 (by decide) h (fun h => ?_) (fun h => ?_)
                              · refine v_iconst (v := 0) cx dL_thoughts_364 (by decide) ?_
                                refine v_widen (k9 := 17) (n9 := 102) (Nat.le_of_ble_eq_true rfl) (Nat.le_of_ble_eq_true rfl) ?_
                                exact v_ireturn cx rfl dL_thoughts_365 ⟨_, _, rfl, hdk, h⟩
                              · refine v_lv (lv' := [(0, .ref q_p0), (1, .int x1), (2, .long (q_digest z : Int64)), (4, .int (q_whole z (0 : Int32) : Int32)), (5, .int (lowW x1 (q_whole z (0 : Int32) : Int32) : Int32)), (6, .int (q_whole z (2 : Int32) : Int32)), (7, .int (q_servedWithout z (lowW x1 (q_whole z (0 : Int32) : Int32) : Int32) : Int32)), (8, .int (q_leastQuality z (lowW x1 (q_whole z (0 : Int32) : Int32) : Int32) : Int32)), (9, .int (lowW (x1 >>> (4 &&& 31)) (2 : Int32) : Int32)), (10, .int (lowW (x1 >>> (5 &&& 31)) (3 : Int32) : Int32)), (11, .int (q_entry z_5 (lowW (x1 >>> (4 &&& 31)) (2 : Int32) : Int32) (lowW (x1 >>> (5 &&& 31)) (3 : Int32) : Int32) (0 : Int32) (0 : Int32) : Int32)), (12, .long (q_digest z_5 : Int64)), (14, .int (q_leastWeight z_5 (lowW (x1 >>> (4 &&& 31)) (2 : Int32) : Int32) (lowW (x1 >>> (5 &&& 31)) (3 : Int32) : Int32) (0 : Int32) (lowW x1 (q_whole z (0 : Int32) : Int32) : Int32) : Int32))]) [5, 6, 7, 8, 9, 10, 11, 12, 4, 3, 2, 1, 0] rfl ?_
                                refine v_widen (k9 := 13) (n9 := 78) (Nat.le_of_ble_eq_true rfl) (Nat.le_of_ble_eq_true rfl) ?_
                                exact hj354 _ h hdk
                    · refine v_aload_n cx dL_thoughts_280 rfl 3 rfl ?_
                      refine v_iload cx dL_thoughts_281 2 rfl ?_
                      refine v_iload cx dL_thoughts_283 1 rfl ?_
                      refine v_iconst (v := 0) cx dL_thoughts_285 (by decide) ?_
                      refine v_iload cx dL_thoughts_286 7 rfl ?_
                      refine a_leastWeight cx hl (by decide) ⟨(Nat.le_of_ble_eq_true rfl), (Nat.le_of_ble_eq_true rfl)⟩ (Nat.le_of_ble_eq_true rfl) dL_thoughts_288 hdk (fun w hdk => ?_)
                      refine v_ldc cx dL_thoughts_291 wK_L_26 ?_
                      refine v_icmp_ne (tgt := 300) cx dL_thoughts_293 (by decide) h (fun h => ?_) (fun h => ?_)
                      · refine v_iconst (v := 0) cx dL_thoughts_300 (by decide) ?_
                        refine v_widen (k9 := 17) (n9 := 102) (Nat.le_of_ble_eq_true rfl) (Nat.le_of_ble_eq_true rfl) ?_
                        exact v_ireturn cx rfl dL_thoughts_301 ⟨_, _, rfl, hdk, h⟩
                      · refine v_iconst (v := 1) cx dL_thoughts_296 (by decide) ?_
                        refine v_goto (tgt := 301) cx dL_thoughts_297 (by decide) ?_
                        refine v_widen (k9 := 17) (n9 := 102) (Nat.le_of_ble_eq_true rfl) (Nat.le_of_ble_eq_true rfl) ?_
                        exact v_ireturn cx rfl dL_thoughts_301 ⟨_, _, rfl, hdk, h⟩
                  refine v_if_lt (tgt := 245) cx dL_thoughts_179 (by decide) h (fun h => ?_) (fun h => ?_)
                  · refine v_lv (lv' := [(0, .ref q_p0), (1, .int x1), (2, .long (q_digest z : Int64)), (4, .int (q_whole z (0 : Int32) : Int32)), (5, .int (lowW x1 (q_whole z (0 : Int32) : Int32) : Int32)), (6, .int (q_whole z (2 : Int32) : Int32)), (7, .int (q_servedWithout z (lowW x1 (q_whole z (0 : Int32) : Int32) : Int32) : Int32)), (8, .int (q_leastQuality z (lowW x1 (q_whole z (0 : Int32) : Int32) : Int32) : Int32))]) [0, 1, 2, 3, 4, 5, 6, 7] rfl ?_
                    refine v_widen (k9 := 11) (n9 := 66) (Nat.le_of_ble_eq_true rfl) (Nat.le_of_ble_eq_true rfl) ?_
                    exact hj245 z _ h hdk
                  · refine v_aload_n cx dL_thoughts_182 rfl 0 rfl ?_
                    refine v_iload cx dL_thoughts_183 4 rfl ?_
                    refine v_iconst (v := 1) cx dL_thoughts_185 (by decide) ?_
                    refine a_variant cx hl (by decide) ⟨(Nat.le_of_ble_eq_true rfl), (Nat.le_of_ble_eq_true rfl)⟩ (Nat.le_of_ble_eq_true rfl) dL_thoughts_186 hdk (fun w hdk => ?_)
                    refine v_istore (lv' := [(9, .int (q_variant z (lowW x1 (q_whole z (0 : Int32) : Int32) : Int32) (1 : Int32) : Int32)), (0, .ref q_p0), (1, .int x1), (2, .long (q_digest z : Int64)), (4, .int (q_whole z (0 : Int32) : Int32)), (5, .int (lowW x1 (q_whole z (0 : Int32) : Int32) : Int32)), (6, .int (q_whole z (2 : Int32) : Int32)), (7, .int (q_servedWithout z (lowW x1 (q_whole z (0 : Int32) : Int32) : Int32) : Int32)), (8, .int (q_leastQuality z (lowW x1 (q_whole z (0 : Int32) : Int32) : Int32) : Int32))]) cx dL_thoughts_189 (by decide) rfl ?_
                    refine v_aload_n cx dL_thoughts_191 rfl 1 rfl ?_
                    refine v_iload cx dL_thoughts_192 5 rfl ?_
                    refine v_iload cx dL_thoughts_194 8 rfl ?_
                    refine a_setQuality cx hl (by decide) ⟨(Nat.le_of_ble_eq_true rfl), (Nat.le_of_ble_eq_true rfl)⟩ (Nat.le_of_ble_eq_true rfl) dL_thoughts_196 hdk (fun r_1 z_2 w hS hI hdk => ?_)
                    have h := h r_1 z_2 hS hI
                    refine v_iload cx dL_thoughts_199 0 rfl ?_
                    refine v_icmp_ne (tgt := 243) cx dL_thoughts_201 (by decide) h (fun h => ?_) (fun h => ?_)
                    · refine v_iconst (v := 0) cx dL_thoughts_243 (by decide) ?_
                      refine v_widen (k9 := 17) (n9 := 102) (Nat.le_of_ble_eq_true rfl) (Nat.le_of_ble_eq_true rfl) ?_
                      exact v_ireturn cx rfl dL_thoughts_244 ⟨_, _, rfl, hdk, h⟩
                    · refine v_aload_n cx dL_thoughts_204 rfl 1 rfl ?_
                      refine v_iconst (v := 2) cx dL_thoughts_205 (by decide) ?_
                      refine a_whole cx hl (by decide) ⟨(Nat.le_of_ble_eq_true rfl), (Nat.le_of_ble_eq_true rfl)⟩ (Nat.le_of_ble_eq_true rfl) dL_thoughts_206 hdk (fun w hdk => ?_)
                      refine v_iload cx dL_thoughts_209 5 rfl ?_
                      refine v_icmp_ne (tgt := 243) cx dL_thoughts_211 (by decide) h (fun h => ?_) (fun h => ?_)
                      · refine v_iconst (v := 0) cx dL_thoughts_243 (by decide) ?_
                        refine v_widen (k9 := 17) (n9 := 102) (Nat.le_of_ble_eq_true rfl) (Nat.le_of_ble_eq_true rfl) ?_
                        exact v_ireturn cx rfl dL_thoughts_244 ⟨_, _, rfl, hdk, h⟩
                      · refine v_aload_n cx dL_thoughts_214 rfl 1 rfl ?_
                        refine a_undo cx hl (by decide) ⟨(Nat.le_of_ble_eq_true rfl), (Nat.le_of_ble_eq_true rfl)⟩ (Nat.le_of_ble_eq_true rfl) dL_thoughts_215 hdk (fun r_3 z_4 w hS hI hdk => ?_)
                        have h := h r_3 z_4 hS hI
                        refine v_if_lt (tgt := 243) cx dL_thoughts_218 (by decide) h (fun h => ?_) (fun h => ?_)
                        · refine v_iconst (v := 0) cx dL_thoughts_243 (by decide) ?_
                          refine v_widen (k9 := 17) (n9 := 102) (Nat.le_of_ble_eq_true rfl) (Nat.le_of_ble_eq_true rfl) ?_
                          exact v_ireturn cx rfl dL_thoughts_244 ⟨_, _, rfl, hdk, h⟩
                        · refine v_aload_n cx dL_thoughts_221 rfl 1 rfl ?_
                          refine v_iload cx dL_thoughts_222 5 rfl ?_
                          refine v_iconst (v := 1) cx dL_thoughts_224 (by decide) ?_
                          refine a_variant cx hl (by decide) ⟨(Nat.le_of_ble_eq_true rfl), (Nat.le_of_ble_eq_true rfl)⟩ (Nat.le_of_ble_eq_true rfl) dL_thoughts_225 hdk (fun w hdk => ?_)
                          refine v_iload cx dL_thoughts_228 0 rfl ?_
                          refine v_icmp_ne (tgt := 243) cx dL_thoughts_230 (by decide) h (fun h => ?_) (fun h => ?_)
                          · refine v_iconst (v := 0) cx dL_thoughts_243 (by decide) ?_
                            refine v_widen (k9 := 17) (n9 := 102) (Nat.le_of_ble_eq_true rfl) (Nat.le_of_ble_eq_true rfl) ?_
                            exact v_ireturn cx rfl dL_thoughts_244 ⟨_, _, rfl, hdk, h⟩
                          · refine v_aload_n cx dL_thoughts_233 rfl 1 rfl ?_
                            refine v_iconst (v := 2) cx dL_thoughts_234 (by decide) ?_
                            refine a_whole cx hl (by decide) ⟨(Nat.le_of_ble_eq_true rfl), (Nat.le_of_ble_eq_true rfl)⟩ (Nat.le_of_ble_eq_true rfl) dL_thoughts_235 hdk (fun w hdk => ?_)
                            refine v_iload cx dL_thoughts_238 6 rfl ?_
                            refine v_icmp_eq (tgt := 245) cx dL_thoughts_240 (by decide) h (fun h => ?_) (fun h => ?_)
                            · refine v_lv (lv' := [(0, .ref q_p0), (1, .int x1), (2, .long (q_digest z : Int64)), (4, .int (q_whole z (0 : Int32) : Int32)), (5, .int (lowW x1 (q_whole z (0 : Int32) : Int32) : Int32)), (6, .int (q_whole z (2 : Int32) : Int32)), (7, .int (q_servedWithout z (lowW x1 (q_whole z (0 : Int32) : Int32) : Int32) : Int32)), (8, .int (q_leastQuality z (lowW x1 (q_whole z (0 : Int32) : Int32) : Int32) : Int32))]) [1, 2, 3, 4, 5, 6, 7, 8] rfl ?_
                              refine v_widen (k9 := 11) (n9 := 66) (Nat.le_of_ble_eq_true rfl) (Nat.le_of_ble_eq_true rfl) ?_
                              exact hj245 z_4 _ h hdk
                            · refine v_iconst (v := 0) cx dL_thoughts_243 (by decide) ?_
                              refine v_widen (k9 := 17) (n9 := 102) (Nat.le_of_ble_eq_true rfl) (Nat.le_of_ble_eq_true rfl) ?_
                              exact v_ireturn cx rfl dL_thoughts_244 ⟨_, _, rfl, hdk, h⟩
                refine v_icmp_ne (tgt := 177) cx dL_thoughts_166 (by decide) h (fun h => ?_) (fun h => ?_)
                · refine v_lv (lv' := [(0, .ref q_p0), (1, .int x1), (2, .long (q_digest z : Int64)), (4, .int (q_whole z (0 : Int32) : Int32)), (5, .int (lowW x1 (q_whole z (0 : Int32) : Int32) : Int32)), (6, .int (q_whole z (2 : Int32) : Int32)), (7, .int (q_servedWithout z (lowW x1 (q_whole z (0 : Int32) : Int32) : Int32) : Int32)), (8, .int (q_leastQuality z (lowW x1 (q_whole z (0 : Int32) : Int32) : Int32) : Int32))]) [0, 1, 2, 3, 4, 5, 6, 7] rfl ?_
                  refine v_widen (k9 := 5) (n9 := 30) (Nat.le_of_ble_eq_true rfl) (Nat.le_of_ble_eq_true rfl) ?_
                  exact hj177 _ h hdk
                · refine v_iload cx dL_thoughts_169 7 rfl ?_
                  refine v_iconst (v := 1) cx dL_thoughts_171 (by decide) ?_
                  refine v_icmp_ge (tgt := 177) cx dL_thoughts_172 (by decide) h (fun h => ?_) (fun h => ?_)
                  · refine v_lv (lv' := [(0, .ref q_p0), (1, .int x1), (2, .long (q_digest z : Int64)), (4, .int (q_whole z (0 : Int32) : Int32)), (5, .int (lowW x1 (q_whole z (0 : Int32) : Int32) : Int32)), (6, .int (q_whole z (2 : Int32) : Int32)), (7, .int (q_servedWithout z (lowW x1 (q_whole z (0 : Int32) : Int32) : Int32) : Int32)), (8, .int (q_leastQuality z (lowW x1 (q_whole z (0 : Int32) : Int32) : Int32) : Int32))]) [0, 1, 2, 3, 4, 5, 6, 7] rfl ?_
                    refine v_widen (k9 := 5) (n9 := 30) (Nat.le_of_ble_eq_true rfl) (Nat.le_of_ble_eq_true rfl) ?_
                    exact hj177 _ h hdk
                  · refine v_iconst (v := 0) cx dL_thoughts_175 (by decide) ?_
                    refine v_widen (k9 := 17) (n9 := 102) (Nat.le_of_ble_eq_true rfl) (Nat.le_of_ble_eq_true rfl) ?_
                    exact v_ireturn cx rfl dL_thoughts_176 ⟨_, _, rfl, hdk, h⟩
          refine v_icmp_ne (tgt := 148) cx dL_thoughts_133 (by decide) h (fun h => ?_) (fun h => ?_)
          · refine v_lv (lv' := [(0, .ref q_p0), (1, .int x1), (2, .long (q_digest z : Int64)), (4, .int (q_whole z (0 : Int32) : Int32)), (5, .int (lowW x1 (q_whole z (0 : Int32) : Int32) : Int32)), (6, .int (q_whole z (2 : Int32) : Int32)), (7, .int (q_servedWithout z (lowW x1 (q_whole z (0 : Int32) : Int32) : Int32) : Int32)), (8, .int (q_leastQuality z (lowW x1 (q_whole z (0 : Int32) : Int32) : Int32) : Int32))]) [0, 1, 2, 3, 4, 5, 6, 7] rfl ?_
            refine v_widen (k9 := 5) (n9 := 30) (Nat.le_of_ble_eq_true rfl) (Nat.le_of_ble_eq_true rfl) ?_
            exact hj148 _ h hdk
          · refine v_iload cx dL_thoughts_136 7 rfl ?_
            refine v_aload_n cx dL_thoughts_138 rfl 0 rfl ?_
            refine v_iload cx dL_thoughts_139 4 rfl ?_
            refine v_iconst (v := 1) cx dL_thoughts_141 (by decide) ?_
            refine a_variant cx hl (by decide) ⟨(Nat.le_of_ble_eq_true rfl), (Nat.le_of_ble_eq_true rfl)⟩ (Nat.le_of_ble_eq_true rfl) dL_thoughts_142 hdk (fun w hdk => ?_)
            refine v_icmp_gt (tgt := 175) cx dL_thoughts_145 (by decide) h (fun h => ?_) (fun h => ?_)
            · refine v_iconst (v := 0) cx dL_thoughts_175 (by decide) ?_
              refine v_widen (k9 := 17) (n9 := 102) (Nat.le_of_ble_eq_true rfl) (Nat.le_of_ble_eq_true rfl) ?_
              exact v_ireturn cx rfl dL_thoughts_176 ⟨_, _, rfl, hdk, h⟩
            · refine v_lv (lv' := [(0, .ref q_p0), (1, .int x1), (2, .long (q_digest z : Int64)), (4, .int (q_whole z (0 : Int32) : Int32)), (5, .int (lowW x1 (q_whole z (0 : Int32) : Int32) : Int32)), (6, .int (q_whole z (2 : Int32) : Int32)), (7, .int (q_servedWithout z (lowW x1 (q_whole z (0 : Int32) : Int32) : Int32) : Int32)), (8, .int (q_leastQuality z (lowW x1 (q_whole z (0 : Int32) : Int32) : Int32) : Int32))]) [0, 1, 2, 3, 4, 5, 6, 7] rfl ?_
              refine v_widen (k9 := 5) (n9 := 30) (Nat.le_of_ble_eq_true rfl) (Nat.le_of_ble_eq_true rfl) ?_
              exact hj148 _ h hdk
      refine v_icmp_eq (tgt := 122) cx dL_thoughts_112 (by decide) h (fun h => ?_) (fun h => ?_)
      · refine v_lv (lv' := [(0, .ref q_p0), (1, .int x1), (2, .long (q_digest z : Int64)), (4, .int (q_whole z (0 : Int32) : Int32)), (5, .int (lowW x1 (q_whole z (0 : Int32) : Int32) : Int32)), (6, .int (q_whole z (2 : Int32) : Int32)), (7, .int (q_servedWithout z (lowW x1 (q_whole z (0 : Int32) : Int32) : Int32) : Int32)), (8, .int (q_leastQuality z (lowW x1 (q_whole z (0 : Int32) : Int32) : Int32) : Int32))]) [6, 7, 5, 4, 3, 2, 1, 0] rfl ?_
        refine v_widen (k9 := 4) (n9 := 24) (Nat.le_of_ble_eq_true rfl) (Nat.le_of_ble_eq_true rfl) ?_
        exact hj122 _ h hdk
      · refine v_iload cx dL_thoughts_115 1 rfl ?_
        refine v_iload cx dL_thoughts_117 2 rfl ?_
        refine v_icmp_ne (tgt := 175) cx dL_thoughts_119 (by decide) h (fun h => ?_) (fun h => ?_)
        · refine v_iconst (v := 0) cx dL_thoughts_175 (by decide) ?_
          refine v_widen (k9 := 17) (n9 := 102) (Nat.le_of_ble_eq_true rfl) (Nat.le_of_ble_eq_true rfl) ?_
          exact v_ireturn cx rfl dL_thoughts_176 ⟨_, _, rfl, hdk, h⟩
        · refine v_lv (lv' := [(0, .ref q_p0), (1, .int x1), (2, .long (q_digest z : Int64)), (4, .int (q_whole z (0 : Int32) : Int32)), (5, .int (lowW x1 (q_whole z (0 : Int32) : Int32) : Int32)), (6, .int (q_whole z (2 : Int32) : Int32)), (7, .int (q_servedWithout z (lowW x1 (q_whole z (0 : Int32) : Int32) : Int32) : Int32)), (8, .int (q_leastQuality z (lowW x1 (q_whole z (0 : Int32) : Int32) : Int32) : Int32))]) [6, 7, 5, 4, 3, 2, 1, 0] rfl ?_
          refine v_widen (k9 := 4) (n9 := 24) (Nat.le_of_ble_eq_true rfl) (Nat.le_of_ble_eq_true rfl) ?_
          exact hj122 _ h hdk
  · refine v_aload_n cx dL_thoughts_17 rfl 2 rfl ?_
    refine v_iconst (v := 2) cx dL_thoughts_18 (by decide) ?_
    refine a_whole cx hl (by decide) ⟨(Nat.le_of_ble_eq_true rfl), (Nat.le_of_ble_eq_true rfl)⟩ (Nat.le_of_ble_eq_true rfl) dL_thoughts_19 hdk (fun w hdk => ?_)
    refine v_iconst (v := (-1)) cx dL_thoughts_22 (by decide) ?_
    refine v_icmp_ne (tgt := 66) cx dL_thoughts_23 (by decide) h (fun h => ?_) (fun h => ?_)
    · refine v_iconst (v := 0) cx dL_thoughts_66 (by decide) ?_
      refine v_widen (k9 := 17) (n9 := 102) (Nat.le_of_ble_eq_true rfl) (Nat.le_of_ble_eq_true rfl) ?_
      exact v_ireturn cx rfl dL_thoughts_67 ⟨_, _, rfl, hdk, h⟩
    · refine v_aload_n cx dL_thoughts_26 rfl 2 rfl ?_
      refine v_iconst (v := 0) cx dL_thoughts_27 (by decide) ?_
      refine a_servedFor cx hl (by decide) ⟨(Nat.le_of_ble_eq_true rfl), (Nat.le_of_ble_eq_true rfl)⟩ (Nat.le_of_ble_eq_true rfl) dL_thoughts_28 hdk (fun w hdk => ?_)
      refine v_iconst (v := (-1)) cx dL_thoughts_31 (by decide) ?_
      refine v_icmp_ne (tgt := 66) cx dL_thoughts_32 (by decide) h (fun h => ?_) (fun h => ?_)
      · refine v_iconst (v := 0) cx dL_thoughts_66 (by decide) ?_
        refine v_widen (k9 := 17) (n9 := 102) (Nat.le_of_ble_eq_true rfl) (Nat.le_of_ble_eq_true rfl) ?_
        exact v_ireturn cx rfl dL_thoughts_67 ⟨_, _, rfl, hdk, h⟩
      · refine v_aload_n cx dL_thoughts_35 rfl 2 rfl ?_
        refine v_iconst (v := 0) cx dL_thoughts_36 (by decide) ?_
        refine a_servedWithout cx hl (by decide) ⟨(Nat.le_of_ble_eq_true rfl), (Nat.le_of_ble_eq_true rfl)⟩ (Nat.le_of_ble_eq_true rfl) dL_thoughts_37 hdk (fun w hdk => ?_)
        refine v_ldc cx dL_thoughts_40 wK_L_26 ?_
        refine v_icmp_ne (tgt := 66) cx dL_thoughts_42 (by decide) h (fun h => ?_) (fun h => ?_)
        · refine v_iconst (v := 0) cx dL_thoughts_66 (by decide) ?_
          refine v_widen (k9 := 17) (n9 := 102) (Nat.le_of_ble_eq_true rfl) (Nat.le_of_ble_eq_true rfl) ?_
          exact v_ireturn cx rfl dL_thoughts_67 ⟨_, _, rfl, hdk, h⟩
        · refine v_aload_n cx dL_thoughts_45 rfl 2 rfl ?_
          refine v_iconst (v := 0) cx dL_thoughts_46 (by decide) ?_
          refine a_leastQuality cx hl (by decide) ⟨(Nat.le_of_ble_eq_true rfl), (Nat.le_of_ble_eq_true rfl)⟩ (Nat.le_of_ble_eq_true rfl) dL_thoughts_47 hdk (fun w hdk => ?_)
          refine v_ldc cx dL_thoughts_50 wK_L_26 ?_
          refine v_icmp_ne (tgt := 66) cx dL_thoughts_52 (by decide) h (fun h => ?_) (fun h => ?_)
          · refine v_iconst (v := 0) cx dL_thoughts_66 (by decide) ?_
            refine v_widen (k9 := 17) (n9 := 102) (Nat.le_of_ble_eq_true rfl) (Nat.le_of_ble_eq_true rfl) ?_
            exact v_ireturn cx rfl dL_thoughts_67 ⟨_, _, rfl, hdk, h⟩
          · refine v_aload_n cx dL_thoughts_55 rfl 2 rfl ?_
            refine a_agree cx (by decide) ⟨(Nat.le_of_ble_eq_true rfl), (Nat.le_of_ble_eq_true rfl)⟩ (Nat.le_of_ble_eq_true rfl) dL_thoughts_56 hdk (fun w hdk => ?_)
            refine v_if_eq (tgt := 66) cx dL_thoughts_59 (by decide) h (fun h => ?_) (fun h => ?_)
            · refine v_iconst (v := 0) cx dL_thoughts_66 (by decide) ?_
              refine v_widen (k9 := 17) (n9 := 102) (Nat.le_of_ble_eq_true rfl) (Nat.le_of_ble_eq_true rfl) ?_
              exact v_ireturn cx rfl dL_thoughts_67 ⟨_, _, rfl, hdk, h⟩
            · refine v_iconst (v := 1) cx dL_thoughts_62 (by decide) ?_
              refine v_goto (tgt := 67) cx dL_thoughts_63 (by decide) ?_
              refine v_widen (k9 := 17) (n9 := 102) (Nat.le_of_ble_eq_true rfl) (Nat.le_of_ble_eq_true rfl) ?_
              exact v_ireturn cx rfl dL_thoughts_67 ⟨_, _, rfl, hdk, h⟩

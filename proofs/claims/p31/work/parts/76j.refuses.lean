abbrev rm_L_refuses : Room := { frames := 8, cells := 25, slots := 150, locals := 182 }
set_option maxHeartbeats 40000000 in
set_option maxRecDepth 100000 in
theorem c_L_refuses (l : Launch) (hl : l.stackTraces = false) (g : gT) (D : va_G) (cy : Nat → ClassId) {q_p0 : Nat} {z : DS} {w : va_W} {Q : Int32 → DS → Prop} (hdk : DK cy q_p0 z w) (h : p_L_refuses z Q) : UC l yL_refuses cL_refuses 5 (some .boolean) rm_L_refuses g D cy [.ref q_p0] w (fun v w => ∃ (r : Int32) (z' : DS), v = some (.int r) ∧ DK cy q_p0 z' w ∧ Q r z') := by
  refine UC_of (by decide +kernel) (Nat.le_of_ble_eq_true rfl) [(0, .ref q_p0)] rfl (fun p e s m args below meth c A cx => ?_)
  unfold p_L_refuses at h
  refine v_aload_n cx dL_refuses_0 rfl 0 rfl ?_
  refine a_digest cx (by decide) ⟨(Nat.le_of_ble_eq_true rfl), (Nat.le_of_ble_eq_true rfl)⟩ (Nat.le_of_ble_eq_true rfl) dL_refuses_1 hdk (fun w hdk => ?_)
  refine v_lstore_n (lv' := [(1, .long (q_digest z : Int64)), (0, .ref q_p0)]) cx dL_refuses_4 rfl (by decide) rfl ?_
  refine v_aload_n cx dL_refuses_5 rfl 1 rfl ?_
  refine v_iconst (v := 0) cx dL_refuses_6 (by decide) ?_
  refine a_whole cx hl (by decide) ⟨(Nat.le_of_ble_eq_true rfl), (Nat.le_of_ble_eq_true rfl)⟩ (Nat.le_of_ble_eq_true rfl) dL_refuses_7 hdk (fun w hdk => ?_)
  refine v_istore_n (lv' := [(3, .int (q_whole z (0 : Int32) : Int32)), (1, .long (q_digest z : Int64)), (0, .ref q_p0)]) cx dL_refuses_10 rfl (by decide) rfl ?_
  refine v_aload_n cx dL_refuses_11 rfl 2 rfl ?_
  refine v_sipush (v := 128) cx dL_refuses_12 (by decide) ?_
  refine a_type cx hl (by decide) ⟨(Nat.le_of_ble_eq_true rfl), (Nat.le_of_ble_eq_true rfl)⟩ (Nat.le_of_ble_eq_true rfl) dL_refuses_15 hdk (fun r_1 z_2 w hS hI hdk => ?_)
  have h := h r_1 z_2 hS hI
  refine v_ldc cx dL_refuses_18 wK_L_17 ?_
  have hj160 : ∀ (y_24 : Int32) (z_25 : DS) (w : va_W), p_L_refuses_j160 Q z y_24 z_25 → DK cy q_p0 z_25 w → vV p l e rm_L_refuses s m args below meth c (MQ below (uQ D A (fun v w => ∃ (r : Int32) (z' : DS), v = some (.int r) ∧ DK cy q_p0 z' w ∧ Q r z')) args s rm_L_refuses.cells rm_L_refuses.slots A) 5 D A 13 78 w 160 [(0, .ref q_p0), (1, .long (q_digest z : Int64)), (3, .int (q_whole z (0 : Int32) : Int32))] [.int y_24] := by
    intro y_24 z_25 w h hdk
    unfold p_L_refuses_j160 at h
    refine v_istore (lv' := [(4, .int y_24), (0, .ref q_p0), (1, .long (q_digest z : Int64)), (3, .int (q_whole z (0 : Int32) : Int32))]) cx dL_refuses_160 (by decide) rfl ?_
    refine v_iload cx dL_refuses_162 0 rfl ?_
    have hj308 : ∀ (y_26 : Int32) (w : va_W), p_L_refuses_j308 Q z_25 z y_26 → DK cy q_p0 z_25 w → vV p l e rm_L_refuses s m args below meth c (MQ below (uQ D A (fun v w => ∃ (r : Int32) (z' : DS), v = some (.int r) ∧ DK cy q_p0 z' w ∧ Q r z')) args s rm_L_refuses.cells rm_L_refuses.slots A) 5 D A 25 150 w 308 [(0, .ref q_p0), (1, .long (q_digest z : Int64)), (3, .int (q_whole z (0 : Int32) : Int32)), (4, .int y_24)] [.int y_26] := by
      intro y_26 w h hdk
      unfold p_L_refuses_j308 at h
      refine v_istore (lv' := [(4, .int y_26), (0, .ref q_p0), (1, .long (q_digest z : Int64)), (3, .int (q_whole z (0 : Int32) : Int32))]) cx dL_refuses_308 (by decide) rfl ?_
      refine v_iload cx dL_refuses_310 0 rfl ?_
      refine v_if_eq (tgt := 328) cx dL_refuses_312 (by decide) h (fun h => ?_) (fun h => ?_)
      · refine v_iconst (v := 0) cx dL_refuses_328 (by decide) ?_
        refine v_widen (k9 := 25) (n9 := 150) (Nat.le_of_ble_eq_true rfl) (Nat.le_of_ble_eq_true rfl) ?_
        exact v_ireturn cx rfl dL_refuses_329 ⟨_, _, rfl, hdk, h⟩
      · refine v_aload_n cx dL_refuses_315 rfl 1 rfl ?_
        refine a_digest cx (by decide) ⟨(Nat.le_of_ble_eq_true rfl), (Nat.le_of_ble_eq_true rfl)⟩ (Nat.le_of_ble_eq_true rfl) dL_refuses_316 hdk (fun w hdk => ?_)
        refine v_lload_n cx dL_refuses_319 rfl 2 rfl ?_
        refine v_lcmp cx dL_refuses_320 ?_
        refine v_if_ne (tgt := 328) cx dL_refuses_321 (by decide) h (fun h => ?_) (fun h => ?_)
        · refine v_iconst (v := 0) cx dL_refuses_328 (by decide) ?_
          refine v_widen (k9 := 25) (n9 := 150) (Nat.le_of_ble_eq_true rfl) (Nat.le_of_ble_eq_true rfl) ?_
          exact v_ireturn cx rfl dL_refuses_329 ⟨_, _, rfl, hdk, h⟩
        · refine v_iconst (v := 1) cx dL_refuses_324 (by decide) ?_
          refine v_goto (tgt := 329) cx dL_refuses_325 (by decide) ?_
          refine v_widen (k9 := 25) (n9 := 150) (Nat.le_of_ble_eq_true rfl) (Nat.le_of_ble_eq_true rfl) ?_
          exact v_ireturn cx rfl dL_refuses_329 ⟨_, _, rfl, hdk, h⟩
    have hj307 : ∀ (w : va_W), p_L_refuses_j307 Q z_25 z → DK cy q_p0 z_25 w → vV p l e rm_L_refuses s m args below meth c (MQ below (uQ D A (fun v w => ∃ (r : Int32) (z' : DS), v = some (.int r) ∧ DK cy q_p0 z' w ∧ Q r z')) args s rm_L_refuses.cells rm_L_refuses.slots A) 5 D A 25 150 w 307 [(0, .ref q_p0), (1, .long (q_digest z : Int64)), (3, .int (q_whole z (0 : Int32) : Int32)), (4, .int y_24)] [] := by
      intro w h hdk
      unfold p_L_refuses_j307 at h
      refine v_iconst (v := 0) cx dL_refuses_307 (by decide) ?_
      refine v_lv (lv' := [(0, .ref q_p0), (1, .long (q_digest z : Int64)), (3, .int (q_whole z (0 : Int32) : Int32)), (4, .int y_24)]) [0, 1, 2, 3] rfl ?_
      refine v_widen (k9 := 25) (n9 := 150) (Nat.le_of_ble_eq_true rfl) (Nat.le_of_ble_eq_true rfl) ?_
      exact hj308 0 _ h hdk
    refine v_if_eq (tgt := 307) cx dL_refuses_164 (by decide) h (fun h => ?_) (fun h => ?_)
    · refine v_lv (lv' := [(0, .ref q_p0), (1, .long (q_digest z : Int64)), (3, .int (q_whole z (0 : Int32) : Int32)), (4, .int y_24)]) [1, 2, 3, 0] rfl ?_
      refine v_widen (k9 := 25) (n9 := 150) (Nat.le_of_ble_eq_true rfl) (Nat.le_of_ble_eq_true rfl) ?_
      exact hj307 _ h hdk
    · refine v_aload_n cx dL_refuses_167 rfl 1 rfl ?_
      refine v_iload_n cx dL_refuses_168 rfl 3 rfl ?_
      refine v_bipush (v := 99) cx dL_refuses_169 (by decide) ?_
      refine a_variant cx hl (by decide) ⟨(Nat.le_of_ble_eq_true rfl), (Nat.le_of_ble_eq_true rfl)⟩ (Nat.le_of_ble_eq_true rfl) dL_refuses_171 hdk (fun w hdk => ?_)
      refine v_ldc cx dL_refuses_174 wK_L_26 ?_
      refine v_icmp_ne (tgt := 307) cx dL_refuses_176 (by decide) h (fun h => ?_) (fun h => ?_)
      · refine v_lv (lv' := [(0, .ref q_p0), (1, .long (q_digest z : Int64)), (3, .int (q_whole z (0 : Int32) : Int32)), (4, .int y_24)]) [1, 2, 3, 0] rfl ?_
        refine v_widen (k9 := 25) (n9 := 150) (Nat.le_of_ble_eq_true rfl) (Nat.le_of_ble_eq_true rfl) ?_
        exact hj307 _ h hdk
      · refine v_aload_n cx dL_refuses_179 rfl 1 rfl ?_
        refine v_iconst (v := 0) cx dL_refuses_180 (by decide) ?_
        refine v_iconst (v := 0) cx dL_refuses_181 (by decide) ?_
        refine v_iload_n cx dL_refuses_182 rfl 3 rfl ?_
        refine a_weight cx hl (by decide) ⟨(Nat.le_of_ble_eq_true rfl), (Nat.le_of_ble_eq_true rfl)⟩ (Nat.le_of_ble_eq_true rfl) dL_refuses_183 hdk (fun w hdk => ?_)
        refine v_ldc cx dL_refuses_186 wK_L_26 ?_
        refine v_icmp_ne (tgt := 307) cx dL_refuses_188 (by decide) h (fun h => ?_) (fun h => ?_)
        · refine v_lv (lv' := [(0, .ref q_p0), (1, .long (q_digest z : Int64)), (3, .int (q_whole z (0 : Int32) : Int32)), (4, .int y_24)]) [1, 2, 3, 0] rfl ?_
          refine v_widen (k9 := 25) (n9 := 150) (Nat.le_of_ble_eq_true rfl) (Nat.le_of_ble_eq_true rfl) ?_
          exact hj307 _ h hdk
        · refine v_aload_n cx dL_refuses_191 rfl 1 rfl ?_
          refine v_iconst (v := 2) cx dL_refuses_192 (by decide) ?_
          refine v_iconst (v := 0) cx dL_refuses_193 (by decide) ?_
          refine v_iload_n cx dL_refuses_194 rfl 3 rfl ?_
          refine a_counting cx hl (by decide) ⟨(Nat.le_of_ble_eq_true rfl), (Nat.le_of_ble_eq_true rfl)⟩ (Nat.le_of_ble_eq_true rfl) dL_refuses_195 hdk (fun w hdk => ?_)
          refine v_ldc cx dL_refuses_198 wK_L_26 ?_
          refine v_icmp_ne (tgt := 307) cx dL_refuses_200 (by decide) h (fun h => ?_) (fun h => ?_)
          · refine v_lv (lv' := [(0, .ref q_p0), (1, .long (q_digest z : Int64)), (3, .int (q_whole z (0 : Int32) : Int32)), (4, .int y_24)]) [1, 2, 3, 0] rfl ?_
            refine v_widen (k9 := 25) (n9 := 150) (Nat.le_of_ble_eq_true rfl) (Nat.le_of_ble_eq_true rfl) ?_
            exact hj307 _ h hdk
          · refine v_aload_n cx dL_refuses_203 rfl 1 rfl ?_
            refine v_iconst (v := 0) cx dL_refuses_204 (by decide) ?_
            refine v_iconst (v := 0) cx dL_refuses_205 (by decide) ?_
            refine v_bipush (v := 10) cx dL_refuses_206 (by decide) ?_
            refine v_bipush (v := 99) cx dL_refuses_208 (by decide) ?_
            refine a_entry cx hl (by decide) ⟨(Nat.le_of_ble_eq_true rfl), (Nat.le_of_ble_eq_true rfl)⟩ (Nat.le_of_ble_eq_true rfl) dL_refuses_210 hdk (fun w hdk => ?_)
            refine v_ldc cx dL_refuses_213 wK_L_26 ?_
            refine v_icmp_ne (tgt := 307) cx dL_refuses_215 (by decide) h (fun h => ?_) (fun h => ?_)
            · refine v_lv (lv' := [(0, .ref q_p0), (1, .long (q_digest z : Int64)), (3, .int (q_whole z (0 : Int32) : Int32)), (4, .int y_24)]) [1, 2, 3, 0] rfl ?_
              refine v_widen (k9 := 25) (n9 := 150) (Nat.le_of_ble_eq_true rfl) (Nat.le_of_ble_eq_true rfl) ?_
              exact hj307 _ h hdk
            · refine v_aload_n cx dL_refuses_218 rfl 1 rfl ?_
              refine v_iconst (v := (-1)) cx dL_refuses_219 (by decide) ?_
              refine a_ranked cx hl (by decide) ⟨(Nat.le_of_ble_eq_true rfl), (Nat.le_of_ble_eq_true rfl)⟩ (Nat.le_of_ble_eq_true rfl) dL_refuses_220 hdk (fun w hdk => ?_)
              refine v_ldc cx dL_refuses_223 wK_L_17 ?_
              refine v_icmp_ne (tgt := 307) cx dL_refuses_225 (by decide) h (fun h => ?_) (fun h => ?_)
              · refine v_lv (lv' := [(0, .ref q_p0), (1, .long (q_digest z : Int64)), (3, .int (q_whole z (0 : Int32) : Int32)), (4, .int y_24)]) [1, 2, 3, 0] rfl ?_
                refine v_widen (k9 := 25) (n9 := 150) (Nat.le_of_ble_eq_true rfl) (Nat.le_of_ble_eq_true rfl) ?_
                exact hj307 _ h hdk
              · refine v_aload_n cx dL_refuses_228 rfl 1 rfl ?_
                refine v_bipush (v := 11) cx dL_refuses_229 (by decide) ?_
                refine a_whole cx hl (by decide) ⟨(Nat.le_of_ble_eq_true rfl), (Nat.le_of_ble_eq_true rfl)⟩ (Nat.le_of_ble_eq_true rfl) dL_refuses_231 hdk (fun w hdk => ?_)
                refine v_ldc cx dL_refuses_234 wK_L_17 ?_
                refine v_icmp_ne (tgt := 307) cx dL_refuses_236 (by decide) h (fun h => ?_) (fun h => ?_)
                · refine v_lv (lv' := [(0, .ref q_p0), (1, .long (q_digest z : Int64)), (3, .int (q_whole z (0 : Int32) : Int32)), (4, .int y_24)]) [1, 2, 3, 0] rfl ?_
                  refine v_widen (k9 := 25) (n9 := 150) (Nat.le_of_ble_eq_true rfl) (Nat.le_of_ble_eq_true rfl) ?_
                  exact hj307 _ h hdk
                · refine v_aload_n cx dL_refuses_239 rfl 1 rfl ?_
                  refine v_iconst (v := (-1)) cx dL_refuses_240 (by decide) ?_
                  refine a_listed cx hl (by decide) ⟨(Nat.le_of_ble_eq_true rfl), (Nat.le_of_ble_eq_true rfl)⟩ (Nat.le_of_ble_eq_true rfl) dL_refuses_241 hdk (fun w hdk => ?_)
                  refine v_ldc cx dL_refuses_244 wK_L_17 ?_
                  refine v_icmp_ne (tgt := 307) cx dL_refuses_246 (by decide) h (fun h => ?_) (fun h => ?_)
                  · refine v_lv (lv' := [(0, .ref q_p0), (1, .long (q_digest z : Int64)), (3, .int (q_whole z (0 : Int32) : Int32)), (4, .int y_24)]) [1, 2, 3, 0] rfl ?_
                    refine v_widen (k9 := 25) (n9 := 150) (Nat.le_of_ble_eq_true rfl) (Nat.le_of_ble_eq_true rfl) ?_
                    exact hj307 _ h hdk
                  · refine v_aload_n cx dL_refuses_249 rfl 1 rfl ?_
                    refine v_iconst (v := (-1)) cx dL_refuses_250 (by decide) ?_
                    refine a_listingByte cx hl (by decide) ⟨(Nat.le_of_ble_eq_true rfl), (Nat.le_of_ble_eq_true rfl)⟩ (Nat.le_of_ble_eq_true rfl) dL_refuses_251 hdk (fun w hdk => ?_)
                    refine v_ldc cx dL_refuses_254 wK_L_17 ?_
                    refine v_icmp_ne (tgt := 307) cx dL_refuses_256 (by decide) h (fun h => ?_) (fun h => ?_)
                    · refine v_lv (lv' := [(0, .ref q_p0), (1, .long (q_digest z : Int64)), (3, .int (q_whole z (0 : Int32) : Int32)), (4, .int y_24)]) [1, 2, 3, 0] rfl ?_
                      refine v_widen (k9 := 25) (n9 := 150) (Nat.le_of_ble_eq_true rfl) (Nat.le_of_ble_eq_true rfl) ?_
                      exact hj307 _ h hdk
                    · refine v_aload_n cx dL_refuses_259 rfl 1 rfl ?_
                      refine v_iconst (v := (-1)) cx dL_refuses_260 (by decide) ?_
                      refine a_servedFor cx hl (by decide) ⟨(Nat.le_of_ble_eq_true rfl), (Nat.le_of_ble_eq_true rfl)⟩ (Nat.le_of_ble_eq_true rfl) dL_refuses_261 hdk (fun w hdk => ?_)
                      refine v_ldc cx dL_refuses_264 wK_L_26 ?_
                      refine v_icmp_ne (tgt := 307) cx dL_refuses_266 (by decide) h (fun h => ?_) (fun h => ?_)
                      · refine v_lv (lv' := [(0, .ref q_p0), (1, .long (q_digest z : Int64)), (3, .int (q_whole z (0 : Int32) : Int32)), (4, .int y_24)]) [1, 2, 3, 0] rfl ?_
                        refine v_widen (k9 := 25) (n9 := 150) (Nat.le_of_ble_eq_true rfl) (Nat.le_of_ble_eq_true rfl) ?_
                        exact hj307 _ h hdk
                      · refine v_aload_n cx dL_refuses_269 rfl 1 rfl ?_
                        refine v_iload_n cx dL_refuses_270 rfl 3 rfl ?_
                        refine a_servedWithout cx hl (by decide) ⟨(Nat.le_of_ble_eq_true rfl), (Nat.le_of_ble_eq_true rfl)⟩ (Nat.le_of_ble_eq_true rfl) dL_refuses_271 hdk (fun w hdk => ?_)
                        refine v_ldc cx dL_refuses_274 wK_L_26 ?_
                        refine v_icmp_ne (tgt := 307) cx dL_refuses_276 (by decide) h (fun h => ?_) (fun h => ?_)
                        · refine v_lv (lv' := [(0, .ref q_p0), (1, .long (q_digest z : Int64)), (3, .int (q_whole z (0 : Int32) : Int32)), (4, .int y_24)]) [1, 2, 3, 0] rfl ?_
                          refine v_widen (k9 := 25) (n9 := 150) (Nat.le_of_ble_eq_true rfl) (Nat.le_of_ble_eq_true rfl) ?_
                          exact hj307 _ h hdk
                        · refine v_aload_n cx dL_refuses_279 rfl 1 rfl ?_
                          refine v_iconst (v := 0) cx dL_refuses_280 (by decide) ?_
                          refine v_iconst (v := 0) cx dL_refuses_281 (by decide) ?_
                          refine v_bipush (v := 10) cx dL_refuses_282 (by decide) ?_
                          refine v_iconst (v := 0) cx dL_refuses_284 (by decide) ?_
                          refine a_leastWeight cx hl (by decide) ⟨(Nat.le_of_ble_eq_true rfl), (Nat.le_of_ble_eq_true rfl)⟩ (Nat.le_of_ble_eq_true rfl) dL_refuses_285 hdk (fun w hdk => ?_)
                          refine v_ldc cx dL_refuses_288 wK_L_26 ?_
                          refine v_icmp_ne (tgt := 307) cx dL_refuses_290 (by decide) h (fun h => ?_) (fun h => ?_)
                          · refine v_lv (lv' := [(0, .ref q_p0), (1, .long (q_digest z : Int64)), (3, .int (q_whole z (0 : Int32) : Int32)), (4, .int y_24)]) [1, 2, 3, 0] rfl ?_
                            refine v_widen (k9 := 25) (n9 := 150) (Nat.le_of_ble_eq_true rfl) (Nat.le_of_ble_eq_true rfl) ?_
                            exact hj307 _ h hdk
                          · refine v_aload_n cx dL_refuses_293 rfl 1 rfl ?_
                            refine v_iconst (v := (-1)) cx dL_refuses_294 (by decide) ?_
                            refine a_leastQuality cx hl (by decide) ⟨(Nat.le_of_ble_eq_true rfl), (Nat.le_of_ble_eq_true rfl)⟩ (Nat.le_of_ble_eq_true rfl) dL_refuses_295 hdk (fun w hdk => ?_)
                            refine v_ldc cx dL_refuses_298 wK_L_26 ?_
                            refine v_icmp_ne (tgt := 307) cx dL_refuses_300 (by decide) h (fun h => ?_) (fun h => ?_)
                            · refine v_lv (lv' := [(0, .ref q_p0), (1, .long (q_digest z : Int64)), (3, .int (q_whole z (0 : Int32) : Int32)), (4, .int y_24)]) [1, 2, 3, 0] rfl ?_
                              refine v_widen (k9 := 25) (n9 := 150) (Nat.le_of_ble_eq_true rfl) (Nat.le_of_ble_eq_true rfl) ?_
                              exact hj307 _ h hdk
                            · refine v_iconst (v := 1) cx dL_refuses_303 (by decide) ?_
                              refine v_goto (tgt := 308) cx dL_refuses_304 (by decide) ?_
                              refine v_lv (lv' := [(0, .ref q_p0), (1, .long (q_digest z : Int64)), (3, .int (q_whole z (0 : Int32) : Int32)), (4, .int y_24)]) [1, 2, 3, 0] rfl ?_
                              refine v_widen (k9 := 25) (n9 := 150) (Nat.le_of_ble_eq_true rfl) (Nat.le_of_ble_eq_true rfl) ?_
                              exact hj308 1 _ h hdk
  have hj159 : ∀ (z_23 : DS) (w : va_W), p_L_refuses_j159 Q z z_23 → DK cy q_p0 z_23 w → vV p l e rm_L_refuses s m args below meth c (MQ below (uQ D A (fun v w => ∃ (r : Int32) (z' : DS), v = some (.int r) ∧ DK cy q_p0 z' w ∧ Q r z')) args s rm_L_refuses.cells rm_L_refuses.slots A) 5 D A 13 78 w 159 [(0, .ref q_p0), (1, .long (q_digest z : Int64)), (3, .int (q_whole z (0 : Int32) : Int32))] [] := by
    intro z_23 w h hdk
    unfold p_L_refuses_j159 at h
    refine v_iconst (v := 0) cx dL_refuses_159 (by decide) ?_
    refine v_lv (lv' := [(0, .ref q_p0), (1, .long (q_digest z : Int64)), (3, .int (q_whole z (0 : Int32) : Int32))]) [0, 1, 2] rfl ?_
    refine v_widen (k9 := 13) (n9 := 78) (Nat.le_of_ble_eq_true rfl) (Nat.le_of_ble_eq_true rfl) ?_
    exact hj160 0 z_23 _ h hdk
  refine v_icmp_ne (tgt := 159) cx dL_refuses_20 (by decide) h (fun h => ?_) (fun h => ?_)
  · refine v_lv (lv' := [(0, .ref q_p0), (1, .long (q_digest z : Int64)), (3, .int (q_whole z (0 : Int32) : Int32))]) [2, 1, 0] rfl ?_
    refine v_widen (k9 := 13) (n9 := 78) (Nat.le_of_ble_eq_true rfl) (Nat.le_of_ble_eq_true rfl) ?_
    exact hj159 z_2 _ h hdk
  · refine v_aload_n cx dL_refuses_23 rfl 2 rfl ?_
    refine v_iconst (v := 3) cx dL_refuses_24 (by decide) ?_
    refine a_listFault cx hl (by decide) ⟨(Nat.le_of_ble_eq_true rfl), (Nat.le_of_ble_eq_true rfl)⟩ (Nat.le_of_ble_eq_true rfl) dL_refuses_25 hdk (fun w hdk => ?_)
    refine v_ldc cx dL_refuses_28 wK_L_26 ?_
    refine v_icmp_ne (tgt := 159) cx dL_refuses_30 (by decide) h (fun h => ?_) (fun h => ?_)
    · refine v_lv (lv' := [(0, .ref q_p0), (1, .long (q_digest z : Int64)), (3, .int (q_whole z (0 : Int32) : Int32))]) [2, 1, 0] rfl ?_
      refine v_widen (k9 := 13) (n9 := 78) (Nat.le_of_ble_eq_true rfl) (Nat.le_of_ble_eq_true rfl) ?_
      exact hj159 z_2 _ h hdk
    · refine v_aload_n cx dL_refuses_33 rfl 2 rfl ?_
      refine v_iconst (v := 2) cx dL_refuses_34 (by decide) ?_
      refine v_iconst (v := 0) cx dL_refuses_35 (by decide) ?_
      refine a_takeList cx hl (by decide) ⟨(Nat.le_of_ble_eq_true rfl), (Nat.le_of_ble_eq_true rfl)⟩ (Nat.le_of_ble_eq_true rfl) dL_refuses_36 hdk (fun r_3 z_4 w hS hI hdk => ?_)
      have h := h r_3 z_4 hS hI
      refine v_ldc cx dL_refuses_39 wK_L_26 ?_
      refine v_icmp_ne (tgt := 159) cx dL_refuses_41 (by decide) h (fun h => ?_) (fun h => ?_)
      · refine v_lv (lv' := [(0, .ref q_p0), (1, .long (q_digest z : Int64)), (3, .int (q_whole z (0 : Int32) : Int32))]) [2, 1, 0] rfl ?_
        refine v_widen (k9 := 13) (n9 := 78) (Nat.le_of_ble_eq_true rfl) (Nat.le_of_ble_eq_true rfl) ?_
        exact hj159 z_4 _ h hdk
      · refine v_aload_n cx dL_refuses_44 rfl 2 rfl ?_
        refine v_iconst (v := 0) cx dL_refuses_45 (by decide) ?_
        refine v_iconst (v := (-1)) cx dL_refuses_46 (by decide) ?_
        refine a_takeList cx hl (by decide) ⟨(Nat.le_of_ble_eq_true rfl), (Nat.le_of_ble_eq_true rfl)⟩ (Nat.le_of_ble_eq_true rfl) dL_refuses_47 hdk (fun r_5 z_6 w hS hI hdk => ?_)
        have h := h r_5 z_6 hS hI
        refine v_ldc cx dL_refuses_50 wK_L_26 ?_
        refine v_icmp_ne (tgt := 159) cx dL_refuses_52 (by decide) h (fun h => ?_) (fun h => ?_)
        · refine v_lv (lv' := [(0, .ref q_p0), (1, .long (q_digest z : Int64)), (3, .int (q_whole z (0 : Int32) : Int32))]) [2, 1, 0] rfl ?_
          refine v_widen (k9 := 13) (n9 := 78) (Nat.le_of_ble_eq_true rfl) (Nat.le_of_ble_eq_true rfl) ?_
          exact hj159 z_6 _ h hdk
        · refine v_aload_n cx dL_refuses_55 rfl 2 rfl ?_
          refine v_iload_n cx dL_refuses_56 rfl 0 rfl ?_
          refine a_removeVariant cx hl (by decide) ⟨(Nat.le_of_ble_eq_true rfl), (Nat.le_of_ble_eq_true rfl)⟩ (Nat.le_of_ble_eq_true rfl) dL_refuses_57 hdk (fun r_7 z_8 w hS hI hdk => ?_)
          have h := h r_7 z_8 hS hI
          refine v_ldc cx dL_refuses_60 wK_L_26 ?_
          refine v_icmp_ne (tgt := 159) cx dL_refuses_62 (by decide) h (fun h => ?_) (fun h => ?_)
          · refine v_lv (lv' := [(0, .ref q_p0), (1, .long (q_digest z : Int64)), (3, .int (q_whole z (0 : Int32) : Int32))]) [2, 1, 0] rfl ?_
            refine v_widen (k9 := 13) (n9 := 78) (Nat.le_of_ble_eq_true rfl) (Nat.le_of_ble_eq_true rfl) ?_
            exact hj159 z_8 _ h hdk
          · refine v_aload_n cx dL_refuses_65 rfl 2 rfl ?_
            refine v_iload_n cx dL_refuses_66 rfl 0 rfl ?_
            refine v_sipush (v := 9999) cx dL_refuses_67 (by decide) ?_
            refine a_setQuality cx hl (by decide) ⟨(Nat.le_of_ble_eq_true rfl), (Nat.le_of_ble_eq_true rfl)⟩ (Nat.le_of_ble_eq_true rfl) dL_refuses_70 hdk (fun r_9 z_10 w hS hI hdk => ?_)
            have h := h r_9 z_10 hS hI
            refine v_ldc cx dL_refuses_73 wK_L_26 ?_
            refine v_icmp_ne (tgt := 159) cx dL_refuses_75 (by decide) h (fun h => ?_) (fun h => ?_)
            · refine v_lv (lv' := [(0, .ref q_p0), (1, .long (q_digest z : Int64)), (3, .int (q_whole z (0 : Int32) : Int32))]) [2, 1, 0] rfl ?_
              refine v_widen (k9 := 13) (n9 := 78) (Nat.le_of_ble_eq_true rfl) (Nat.le_of_ble_eq_true rfl) ?_
              exact hj159 z_10 _ h hdk
            · refine v_aload_n cx dL_refuses_78 rfl 2 rfl ?_
              refine v_iconst (v := (-1)) cx dL_refuses_79 (by decide) ?_
              refine v_iconst (v := 0) cx dL_refuses_80 (by decide) ?_
              refine a_setSize cx hl (by decide) ⟨(Nat.le_of_ble_eq_true rfl), (Nat.le_of_ble_eq_true rfl)⟩ (Nat.le_of_ble_eq_true rfl) dL_refuses_81 hdk (fun r_11 z_12 w hS hI hdk => ?_)
              have h := h r_11 z_12 hS hI
              refine v_ldc cx dL_refuses_84 wK_L_26 ?_
              refine v_icmp_ne (tgt := 159) cx dL_refuses_86 (by decide) h (fun h => ?_) (fun h => ?_)
              · refine v_lv (lv' := [(0, .ref q_p0), (1, .long (q_digest z : Int64)), (3, .int (q_whole z (0 : Int32) : Int32))]) [2, 1, 0] rfl ?_
                refine v_widen (k9 := 13) (n9 := 78) (Nat.le_of_ble_eq_true rfl) (Nat.le_of_ble_eq_true rfl) ?_
                exact hj159 z_12 _ h hdk
              · refine v_aload_n cx dL_refuses_89 rfl 2 rfl ?_
                refine v_iconst (v := 0) cx dL_refuses_90 (by decide) ?_
                refine v_iconst (v := 0) cx dL_refuses_91 (by decide) ?_
                refine v_bipush (v := 10) cx dL_refuses_92 (by decide) ?_
                refine v_sipush (v := 9999) cx dL_refuses_94 (by decide) ?_
                refine a_setWeight cx hl (by decide) ⟨(Nat.le_of_ble_eq_true rfl), (Nat.le_of_ble_eq_true rfl)⟩ (Nat.le_of_ble_eq_true rfl) dL_refuses_97 hdk (fun r_13 z_14 w hS hI hdk => ?_)
                have h := h r_13 z_14 hS hI
                refine v_ldc cx dL_refuses_100 wK_L_26 ?_
                refine v_icmp_ne (tgt := 159) cx dL_refuses_102 (by decide) h (fun h => ?_) (fun h => ?_)
                · refine v_lv (lv' := [(0, .ref q_p0), (1, .long (q_digest z : Int64)), (3, .int (q_whole z (0 : Int32) : Int32))]) [2, 1, 0] rfl ?_
                  refine v_widen (k9 := 13) (n9 := 78) (Nat.le_of_ble_eq_true rfl) (Nat.le_of_ble_eq_true rfl) ?_
                  exact hj159 z_14 _ h hdk
                · refine v_aload_n cx dL_refuses_105 rfl 2 rfl ?_
                  refine v_iconst (v := (-1)) cx dL_refuses_106 (by decide) ?_
                  refine v_iconst (v := 0) cx dL_refuses_107 (by decide) ?_
                  refine v_iconst (v := 0) cx dL_refuses_108 (by decide) ?_
                  refine v_iconst (v := 0) cx dL_refuses_109 (by decide) ?_
                  refine a_setWeight cx hl (by decide) ⟨(Nat.le_of_ble_eq_true rfl), (Nat.le_of_ble_eq_true rfl)⟩ (Nat.le_of_ble_eq_true rfl) dL_refuses_110 hdk (fun r_15 z_16 w hS hI hdk => ?_)
                  have h := h r_15 z_16 hS hI
                  refine v_ldc cx dL_refuses_113 wK_L_26 ?_
                  refine v_icmp_ne (tgt := 159) cx dL_refuses_115 (by decide) h (fun h => ?_) (fun h => ?_)
                  · refine v_lv (lv' := [(0, .ref q_p0), (1, .long (q_digest z : Int64)), (3, .int (q_whole z (0 : Int32) : Int32))]) [2, 1, 0] rfl ?_
                    refine v_widen (k9 := 13) (n9 := 78) (Nat.le_of_ble_eq_true rfl) (Nat.le_of_ble_eq_true rfl) ?_
                    exact hj159 z_16 _ h hdk
                  · refine v_aload_n cx dL_refuses_118 rfl 2 rfl ?_
                    refine v_iconst (v := 0) cx dL_refuses_119 (by decide) ?_
                    refine v_iconst (v := 3) cx dL_refuses_120 (by decide) ?_
                    refine v_iconst (v := 0) cx dL_refuses_121 (by decide) ?_
                    refine a_removeEntry cx hl (by decide) ⟨(Nat.le_of_ble_eq_true rfl), (Nat.le_of_ble_eq_true rfl)⟩ (Nat.le_of_ble_eq_true rfl) dL_refuses_122 hdk (fun r_17 z_18 w hS hI hdk => ?_)
                    have h := h r_17 z_18 hS hI
                    refine v_ldc cx dL_refuses_125 wK_L_26 ?_
                    refine v_icmp_ne (tgt := 159) cx dL_refuses_127 (by decide) h (fun h => ?_) (fun h => ?_)
                    · refine v_lv (lv' := [(0, .ref q_p0), (1, .long (q_digest z : Int64)), (3, .int (q_whole z (0 : Int32) : Int32))]) [2, 1, 0] rfl ?_
                      refine v_widen (k9 := 13) (n9 := 78) (Nat.le_of_ble_eq_true rfl) (Nat.le_of_ble_eq_true rfl) ?_
                      exact hj159 z_18 _ h hdk
                    · refine v_aload_n cx dL_refuses_130 rfl 2 rfl ?_
                      refine v_iconst (v := 0) cx dL_refuses_131 (by decide) ?_
                      refine v_bipush (v := 6) cx dL_refuses_132 (by decide) ?_
                      refine v_iconst (v := 0) cx dL_refuses_134 (by decide) ?_
                      refine a_setTies cx hl (by decide) ⟨(Nat.le_of_ble_eq_true rfl), (Nat.le_of_ble_eq_true rfl)⟩ (Nat.le_of_ble_eq_true rfl) dL_refuses_135 hdk (fun r_19 z_20 w hS hI hdk => ?_)
                      have h := h r_19 z_20 hS hI
                      refine v_ldc cx dL_refuses_138 wK_L_17 ?_
                      refine v_icmp_ne (tgt := 159) cx dL_refuses_140 (by decide) h (fun h => ?_) (fun h => ?_)
                      · refine v_lv (lv' := [(0, .ref q_p0), (1, .long (q_digest z : Int64)), (3, .int (q_whole z (0 : Int32) : Int32))]) [2, 1, 0] rfl ?_
                        refine v_widen (k9 := 13) (n9 := 78) (Nat.le_of_ble_eq_true rfl) (Nat.le_of_ble_eq_true rfl) ?_
                        exact hj159 z_20 _ h hdk
                      · refine v_aload_n cx dL_refuses_143 rfl 2 rfl ?_
                        refine v_iconst (v := (-1)) cx dL_refuses_144 (by decide) ?_
                        refine v_iconst (v := 0) cx dL_refuses_145 (by decide) ?_
                        refine v_iconst (v := 0) cx dL_refuses_146 (by decide) ?_
                        refine a_setTies cx hl (by decide) ⟨(Nat.le_of_ble_eq_true rfl), (Nat.le_of_ble_eq_true rfl)⟩ (Nat.le_of_ble_eq_true rfl) dL_refuses_147 hdk (fun r_21 z_22 w hS hI hdk => ?_)
                        have h := h r_21 z_22 hS hI
                        refine v_ldc cx dL_refuses_150 wK_L_17 ?_
                        refine v_icmp_ne (tgt := 159) cx dL_refuses_152 (by decide) h (fun h => ?_) (fun h => ?_)
                        · refine v_lv (lv' := [(0, .ref q_p0), (1, .long (q_digest z : Int64)), (3, .int (q_whole z (0 : Int32) : Int32))]) [2, 1, 0] rfl ?_
                          refine v_widen (k9 := 13) (n9 := 78) (Nat.le_of_ble_eq_true rfl) (Nat.le_of_ble_eq_true rfl) ?_
                          exact hj159 z_22 _ h hdk
                        · refine v_iconst (v := 1) cx dL_refuses_155 (by decide) ?_
                          refine v_goto (tgt := 160) cx dL_refuses_156 (by decide) ?_
                          refine v_lv (lv' := [(0, .ref q_p0), (1, .long (q_digest z : Int64)), (3, .int (q_whole z (0 : Int32) : Int32))]) [2, 1, 0] rfl ?_
                          refine v_widen (k9 := 13) (n9 := 78) (Nat.le_of_ble_eq_true rfl) (Nat.le_of_ble_eq_true rfl) ?_
                          exact hj160 1 z_22 _ h hdk

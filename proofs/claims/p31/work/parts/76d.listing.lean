abbrev rm_L_listing : Room := { frames := 8, cells := 1221, slots := 7326, locals := 176 }
set_option maxHeartbeats 40000000 in
set_option maxRecDepth 100000 in
theorem w_L_listing_17 {p : Program} {l : Launch} {e : Env} {s : State} {m : MethodId} {args : Array Value} {below : List Frame} {meth : Method} {c : Code} {Q9 : State → Prop} {mn : String} {Ts : List Cond} {D : va_G} {cy : Nat → ClassId} {g : gT} {A : Nat → Prop} (cx : vC p s m args meth c cL_listing 8 (some .boolean) RL mn Ts D cy g A) (hl : l.stackTraces = false) {q_p0 : Nat} {x1 : Int32} {z : DS} {K17_166 : Int32 → Int32 → Int32 → Int32 → Int32 → Int32 → Prop} {K17_174 : Int32 → Int32 → Int32 → Int32 → Prop} {cm sm : Nat} (hcm : cm ≤ 1221) (hsm : sm ≤ 7326) (hK166 : ∀ (x2 : Int32) (x3 : Int32) (x4 : Int32) (x5 : Int32) (x6 : Int32) (x7 : Int32) (w : va_W), K17_166 x2 x3 x4 x5 x6 x7 → DK cy q_p0 z w → vV p l e rm_L_listing s m args below meth c Q9 8 D A cm sm w 166 [(0, .ref q_p0), (1, .int x1), (2, .int x2), (3, .int x3), (4, .int x4), (5, .int x5), (6, .int x6), (7, .int x7)] []) (hK174 : ∀ (x2 : Int32) (x3 : Int32) (x4 : Int32) (x5 : Int32) (w : va_W), K17_174 x2 x3 x4 x5 → DK cy q_p0 z w → vV p l e rm_L_listing s m args below meth c Q9 8 D A cm sm w 174 [(0, .ref q_p0), (1, .int x1), (2, .int x2), (3, .int x3), (4, .int x4), (5, .int x5)] []) : ∀ (n c9 s9 : Nat), c9 + n * 2 ≤ cm → s9 + n * 12 ≤ sm → ∀ (x2 : Int32) (x3 : Int32) (x4 : Int32) (x5 : Int32) (w : va_W), p_L_listing_17 x1 z K17_166 K17_174 n x2 x3 x4 x5 → DK cy q_p0 z w → vV p l e rm_L_listing s m args below meth c Q9 8 D A c9 s9 w 17 [(0, .ref q_p0), (1, .int x1), (2, .int x2), (3, .int x3), (4, .int x4), (5, .int x5)] [] := by
  intro n
  induction n with
  | zero => intro c9 s9 hc9 hs9 x2 x3 x4 x5 w h; exact False.elim h
  | succ n ih =>
    intro c9 s9 hc9 hs9 x2 x3 x4 x5 w h hdk
    unfold p_L_listing_17 at h
    refine v_iload cx dL_listing_17 5 rfl ?_
    refine v_iload_n cx dL_listing_19 rfl 1 rfl ?_
    refine v_icmp_ge (tgt := 174) cx dL_listing_20 (by decide) h (fun h => ?_) (fun h => ?_)
    · refine v_lv (lv' := [(0, .ref q_p0), (1, .int x1), (2, .int x2), (3, .int x3), (4, .int x4), (5, .int x5)]) [0, 1, 2, 3, 4, 5] rfl ?_
      refine v_widen (k9 := cm) (n9 := sm) (ob2 (c := c9) (d := 0) hc9 rfl) (ob2 (c := s9) (d := 0) hs9 rfl) ?_
      exact hK174 _ _ _ _ _ h hdk
    · refine v_aload_n cx dL_listing_23 rfl 0 rfl ?_
      refine v_iload cx dL_listing_24 5 rfl ?_
      refine a_listingByte cx hl (by decide) ⟨(ob1 (c := c9) (d := 1) hc9 hcm rfl), (ob1 (c := s9) (d := 6) hs9 hsm rfl)⟩ (Nat.le_of_ble_eq_true rfl) dL_listing_26 hdk (fun w hdk => ?_)
      refine v_istore (lv' := [(6, .int (q_listingByte z x5 : Int32)), (0, .ref q_p0), (1, .int x1), (2, .int x2), (3, .int x3), (4, .int x4), (5, .int x5)]) cx dL_listing_29 (by decide) rfl ?_
      refine v_iload_n cx dL_listing_31 rfl 3 rfl ?_
      refine v_iload cx dL_listing_32 0 rfl ?_
      refine v_bipush (v := 44) cx dL_listing_34 (by decide) ?_
      have hj44 : ∀ (y_1 : Int32) (w : va_W), p_L_listing_j44 z x5 K17_166 x2 x3 x4 (p_L_listing_17 x1 z K17_166 K17_174 n) y_1 → DK cy q_p0 z w → vV p l e rm_L_listing s m args below meth c Q9 8 D A (c9 + 1) (s9 + 6) w 44 [(0, .ref q_p0), (1, .int x1), (2, .int x2), (3, .int x3), (4, .int x4), (5, .int x5), (6, .int (q_listingByte z x5 : Int32))] [.int y_1, .int x2] := by
        intro y_1 w h hdk
        unfold p_L_listing_j44 at h
        refine v_iadd cx dL_listing_44 ?_
        refine v_istore_n (lv' := [(2, .int (x2 + y_1)), (0, .ref q_p0), (1, .int x1), (3, .int x3), (4, .int x4), (5, .int x5), (6, .int (q_listingByte z x5 : Int32))]) cx dL_listing_45 rfl (by decide) rfl ?_
        refine v_iload_n cx dL_listing_46 rfl 3 rfl ?_
        refine v_iload cx dL_listing_47 6 rfl ?_
        refine v_bipush (v := 47) cx dL_listing_49 (by decide) ?_
        have hj59 : ∀ (y_2 : Int32) (w : va_W), p_L_listing_j59 z x5 K17_166 x2 y_1 x3 x4 (p_L_listing_17 x1 z K17_166 K17_174 n) y_2 → DK cy q_p0 z w → vV p l e rm_L_listing s m args below meth c Q9 8 D A (c9 + 1) (s9 + 6) w 59 [(0, .ref q_p0), (1, .int x1), (2, .int (x2 + y_1)), (3, .int x3), (4, .int x4), (5, .int x5), (6, .int (q_listingByte z x5 : Int32))] [.int y_2, .int x3] := by
          intro y_2 w h hdk
          unfold p_L_listing_j59 at h
          refine v_iadd cx dL_listing_59 ?_
          refine v_istore_n (lv' := [(3, .int (x3 + y_2)), (0, .ref q_p0), (1, .int x1), (2, .int (x2 + y_1)), (4, .int x4), (5, .int x5), (6, .int (q_listingByte z x5 : Int32))]) cx dL_listing_60 rfl (by decide) rfl ?_
          refine v_iload cx dL_listing_61 4 rfl ?_
          refine v_iload cx dL_listing_63 6 rfl ?_
          refine v_bipush (v := 32) cx dL_listing_65 (by decide) ?_
          have hj75 : ∀ (y_3 : Int32) (w : va_W), p_L_listing_j75 z x5 K17_166 x2 y_1 x3 y_2 x4 (p_L_listing_17 x1 z K17_166 K17_174 n) y_3 → DK cy q_p0 z w → vV p l e rm_L_listing s m args below meth c Q9 8 D A (c9 + 1) (s9 + 6) w 75 [(0, .ref q_p0), (1, .int x1), (2, .int (x2 + y_1)), (3, .int (x3 + y_2)), (4, .int x4), (5, .int x5), (6, .int (q_listingByte z x5 : Int32))] [.int y_3, .int x4] := by
            intro y_3 w h hdk
            unfold p_L_listing_j75 at h
            refine v_iadd cx dL_listing_75 ?_
            refine v_istore (lv' := [(4, .int (x4 + y_3)), (0, .ref q_p0), (1, .int x1), (2, .int (x2 + y_1)), (3, .int (x3 + y_2)), (5, .int x5), (6, .int (q_listingByte z x5 : Int32))]) cx dL_listing_76 (by decide) rfl ?_
            refine v_iload cx dL_listing_78 6 rfl ?_
            refine v_bipush (v := 44) cx dL_listing_80 (by decide) ?_
            have hj139 : ∀ (y_4 : Int32) (w : va_W), p_L_listing_j139 K17_166 x2 y_1 x3 y_2 x4 y_3 x5 z (p_L_listing_17 x1 z K17_166 K17_174 n) y_4 → DK cy q_p0 z w → vV p l e rm_L_listing s m args below meth c Q9 8 D A (c9 + 1) (s9 + 6) w 139 [(0, .ref q_p0), (1, .int x1), (2, .int (x2 + y_1)), (3, .int (x3 + y_2)), (4, .int (x4 + y_3)), (5, .int x5), (6, .int (q_listingByte z x5 : Int32))] [.int y_4] := by
              intro y_4 w h hdk
              unfold p_L_listing_j139 at h
              refine v_istore (lv' := [(7, .int y_4), (0, .ref q_p0), (1, .int x1), (2, .int (x2 + y_1)), (3, .int (x3 + y_2)), (4, .int (x4 + y_3)), (5, .int x5), (6, .int (q_listingByte z x5 : Int32))]) cx dL_listing_139 (by decide) rfl ?_
              refine v_iload cx dL_listing_141 0 rfl ?_
              refine v_if_eq (tgt := 166) cx dL_listing_143 (by decide) h (fun h => ?_) (fun h => ?_)
              · refine v_lv (lv' := [(0, .ref q_p0), (1, .int x1), (2, .int (x2 + y_1)), (3, .int (x3 + y_2)), (4, .int (x4 + y_3)), (5, .int x5), (6, .int (q_listingByte z x5 : Int32)), (7, .int y_4)]) [1, 2, 3, 4, 5, 6, 7, 0] rfl ?_
                refine v_widen (k9 := cm) (n9 := sm) (ob2 (c := c9) (d := 1) hc9 rfl) (ob2 (c := s9) (d := 6) hs9 rfl) ?_
                exact hK166 _ _ _ _ _ _ _ h hdk
              · refine v_iload cx dL_listing_146 7 rfl ?_
                refine v_bipush (v := 44) cx dL_listing_148 (by decide) ?_
                refine v_icmp_ne (tgt := 168) cx dL_listing_150 (by decide) h (fun h => ?_) (fun h => ?_)
                · refine v_iinc (v := x5 + 1) (k0 := 6) (lv' := [(5, .int (x5 + 1)), (7, .int y_4), (0, .ref q_p0), (1, .int x1), (2, .int (x2 + y_1)), (3, .int (x3 + y_2)), (4, .int (x4 + y_3)), (6, .int (q_listingByte z x5 : Int32))]) cx dL_listing_168 rfl rfl (by decide) rfl ?_
                  refine v_goto (tgt := 17) cx dL_listing_171 (by decide) ?_
                  refine v_lv (lv' := [(0, .ref q_p0), (1, .int x1), (2, .int (x2 + y_1)), (3, .int (x3 + y_2)), (4, .int (x4 + y_3)), (5, .int (x5 + 1))]) [2, 3, 4, 5, 6, 0] rfl ?_
                  refine v_widen (k9 := (c9 + 2)) (n9 := (s9 + 12)) (ob3 (c := c9) (d := 1) (e := 2) rfl) (ob3 (c := s9) (d := 6) (e := 12) rfl) ?_
                  exact ih _ _ (ob4 hc9) (ob4 hs9) _ _ _ _ _ h hdk
                · refine v_aload_n cx dL_listing_153 rfl 1 rfl ?_
                  refine v_iload cx dL_listing_154 6 rfl ?_
                  refine v_iconst (v := 1) cx dL_listing_156 (by decide) ?_
                  refine v_iadd cx dL_listing_157 ?_
                  refine a_listingByte cx hl (by decide) ⟨(ob1 (c := c9) (d := 2) hc9 hcm rfl), (ob1 (c := s9) (d := 12) hs9 hsm rfl)⟩ (Nat.le_of_ble_eq_true rfl) dL_listing_158 hdk (fun w hdk => ?_)
                  refine v_bipush (v := 32) cx dL_listing_161 (by decide) ?_
                  refine v_icmp_eq (tgt := 168) cx dL_listing_163 (by decide) h (fun h => ?_) (fun h => ?_)
                  · refine v_iinc (v := x5 + 1) (k0 := 6) (lv' := [(5, .int (x5 + 1)), (7, .int y_4), (0, .ref q_p0), (1, .int x1), (2, .int (x2 + y_1)), (3, .int (x3 + y_2)), (4, .int (x4 + y_3)), (6, .int (q_listingByte z x5 : Int32))]) cx dL_listing_168 rfl rfl (by decide) rfl ?_
                    refine v_goto (tgt := 17) cx dL_listing_171 (by decide) ?_
                    refine v_lv (lv' := [(0, .ref q_p0), (1, .int x1), (2, .int (x2 + y_1)), (3, .int (x3 + y_2)), (4, .int (x4 + y_3)), (5, .int (x5 + 1))]) [2, 3, 4, 5, 6, 0] rfl ?_
                    refine v_widen (k9 := (c9 + 2)) (n9 := (s9 + 12)) (ob3 (c := c9) (d := 2) (e := 2) rfl) (ob3 (c := s9) (d := 12) (e := 12) rfl) ?_
                    exact ih _ _ (ob4 hc9) (ob4 hs9) _ _ _ _ _ h hdk
                  · refine v_lv (lv' := [(0, .ref q_p0), (1, .int x1), (2, .int (x2 + y_1)), (3, .int (x3 + y_2)), (4, .int (x4 + y_3)), (5, .int x5), (6, .int (q_listingByte z x5 : Int32)), (7, .int y_4)]) [1, 2, 3, 4, 5, 6, 7, 0] rfl ?_
                    refine v_widen (k9 := cm) (n9 := sm) (ob2 (c := c9) (d := 2) hc9 rfl) (ob2 (c := s9) (d := 12) hs9 rfl) ?_
                    exact hK166 _ _ _ _ _ _ _ h hdk
            have hj134 : ∀ (w : va_W), p_L_listing_j134 K17_166 x2 y_1 x3 y_2 x4 y_3 x5 z (p_L_listing_17 x1 z K17_166 K17_174 n) → DK cy q_p0 z w → vV p l e rm_L_listing s m args below meth c Q9 8 D A (c9 + 1) (s9 + 6) w 134 [(0, .ref q_p0), (1, .int x1), (2, .int (x2 + y_1)), (3, .int (x3 + y_2)), (4, .int (x4 + y_3)), (5, .int x5), (6, .int (q_listingByte z x5 : Int32))] [] := by
              intro w h hdk
              unfold p_L_listing_j134 at h
              refine v_iconst (v := 1) cx dL_listing_134 (by decide) ?_
              refine v_goto (tgt := 139) cx dL_listing_135 (by decide) ?_
              refine v_lv (lv' := [(0, .ref q_p0), (1, .int x1), (2, .int (x2 + y_1)), (3, .int (x3 + y_2)), (4, .int (x4 + y_3)), (5, .int x5), (6, .int (q_listingByte z x5 : Int32))]) [0, 1, 2, 3, 4, 5, 6] rfl ?_
              refine v_widen (k9 := (c9 + 1)) (n9 := (s9 + 6)) (ob3 (c := c9) (d := 1) (e := 1) rfl) (ob3 (c := s9) (d := 6) (e := 6) rfl) ?_
              exact hj139 1 _ h hdk
            refine v_icmp_eq (tgt := 134) cx dL_listing_82 (by decide) h (fun h => ?_) (fun h => ?_)
            · refine v_lv (lv' := [(0, .ref q_p0), (1, .int x1), (2, .int (x2 + y_1)), (3, .int (x3 + y_2)), (4, .int (x4 + y_3)), (5, .int x5), (6, .int (q_listingByte z x5 : Int32))]) [1, 2, 3, 4, 0, 5, 6] rfl ?_
              refine v_widen (k9 := (c9 + 1)) (n9 := (s9 + 6)) (ob3 (c := c9) (d := 1) (e := 1) rfl) (ob3 (c := s9) (d := 6) (e := 6) rfl) ?_
              exact hj134 _ h hdk
            · refine v_iload cx dL_listing_85 6 rfl ?_
              refine v_bipush (v := 47) cx dL_listing_87 (by decide) ?_
              refine v_icmp_eq (tgt := 134) cx dL_listing_89 (by decide) h (fun h => ?_) (fun h => ?_)
              · refine v_lv (lv' := [(0, .ref q_p0), (1, .int x1), (2, .int (x2 + y_1)), (3, .int (x3 + y_2)), (4, .int (x4 + y_3)), (5, .int x5), (6, .int (q_listingByte z x5 : Int32))]) [1, 2, 3, 4, 0, 5, 6] rfl ?_
                refine v_widen (k9 := (c9 + 1)) (n9 := (s9 + 6)) (ob3 (c := c9) (d := 1) (e := 1) rfl) (ob3 (c := s9) (d := 6) (e := 6) rfl) ?_
                exact hj134 _ h hdk
              · refine v_iload cx dL_listing_92 6 rfl ?_
                refine v_bipush (v := 32) cx dL_listing_94 (by decide) ?_
                refine v_icmp_eq (tgt := 134) cx dL_listing_96 (by decide) h (fun h => ?_) (fun h => ?_)
                · refine v_lv (lv' := [(0, .ref q_p0), (1, .int x1), (2, .int (x2 + y_1)), (3, .int (x3 + y_2)), (4, .int (x4 + y_3)), (5, .int x5), (6, .int (q_listingByte z x5 : Int32))]) [1, 2, 3, 4, 0, 5, 6] rfl ?_
                  refine v_widen (k9 := (c9 + 1)) (n9 := (s9 + 6)) (ob3 (c := c9) (d := 1) (e := 1) rfl) (ob3 (c := s9) (d := 6) (e := 6) rfl) ?_
                  exact hj134 _ h hdk
                · refine v_iload cx dL_listing_99 6 rfl ?_
                  refine v_bipush (v := 45) cx dL_listing_101 (by decide) ?_
                  refine v_icmp_eq (tgt := 134) cx dL_listing_103 (by decide) h (fun h => ?_) (fun h => ?_)
                  · refine v_lv (lv' := [(0, .ref q_p0), (1, .int x1), (2, .int (x2 + y_1)), (3, .int (x3 + y_2)), (4, .int (x4 + y_3)), (5, .int x5), (6, .int (q_listingByte z x5 : Int32))]) [1, 2, 3, 4, 0, 5, 6] rfl ?_
                    refine v_widen (k9 := (c9 + 1)) (n9 := (s9 + 6)) (ob3 (c := c9) (d := 1) (e := 1) rfl) (ob3 (c := s9) (d := 6) (e := 6) rfl) ?_
                    exact hj134 _ h hdk
                  · refine v_iload cx dL_listing_106 6 rfl ?_
                    refine v_bipush (v := 48) cx dL_listing_108 (by decide) ?_
                    have hj120 : ∀ (w : va_W), p_L_listing_j120 z x5 K17_166 x2 y_1 x3 y_2 x4 y_3 (p_L_listing_17 x1 z K17_166 K17_174 n) → DK cy q_p0 z w → vV p l e rm_L_listing s m args below meth c Q9 8 D A (c9 + 1) (s9 + 6) w 120 [(0, .ref q_p0), (1, .int x1), (2, .int (x2 + y_1)), (3, .int (x3 + y_2)), (4, .int (x4 + y_3)), (5, .int x5), (6, .int (q_listingByte z x5 : Int32))] [] := by
                      intro w h hdk
                      unfold p_L_listing_j120 at h
                      refine v_iload cx dL_listing_120 6 rfl ?_
                      refine v_bipush (v := 97) cx dL_listing_122 (by decide) ?_
                      have hj138 : ∀ (w : va_W), p_L_listing_j138 K17_166 x2 y_1 x3 y_2 x4 y_3 x5 z (p_L_listing_17 x1 z K17_166 K17_174 n) → DK cy q_p0 z w → vV p l e rm_L_listing s m args below meth c Q9 8 D A (c9 + 1) (s9 + 6) w 138 [(0, .ref q_p0), (1, .int x1), (2, .int (x2 + y_1)), (3, .int (x3 + y_2)), (4, .int (x4 + y_3)), (5, .int x5), (6, .int (q_listingByte z x5 : Int32))] [] := by
                        intro w h hdk
                        unfold p_L_listing_j138 at h
                        refine v_iconst (v := 0) cx dL_listing_138 (by decide) ?_
                        refine v_lv (lv' := [(0, .ref q_p0), (1, .int x1), (2, .int (x2 + y_1)), (3, .int (x3 + y_2)), (4, .int (x4 + y_3)), (5, .int x5), (6, .int (q_listingByte z x5 : Int32))]) [0, 1, 2, 3, 4, 5, 6] rfl ?_
                        refine v_widen (k9 := (c9 + 1)) (n9 := (s9 + 6)) (ob3 (c := c9) (d := 1) (e := 1) rfl) (ob3 (c := s9) (d := 6) (e := 6) rfl) ?_
                        exact hj139 0 _ h hdk
                      refine v_icmp_lt (tgt := 138) cx dL_listing_124 (by decide) h (fun h => ?_) (fun h => ?_)
                      · refine v_lv (lv' := [(0, .ref q_p0), (1, .int x1), (2, .int (x2 + y_1)), (3, .int (x3 + y_2)), (4, .int (x4 + y_3)), (5, .int x5), (6, .int (q_listingByte z x5 : Int32))]) [0, 1, 2, 3, 4, 5, 6] rfl ?_
                        refine v_widen (k9 := (c9 + 1)) (n9 := (s9 + 6)) (ob3 (c := c9) (d := 1) (e := 1) rfl) (ob3 (c := s9) (d := 6) (e := 6) rfl) ?_
                        exact hj138 _ h hdk
                      · refine v_iload cx dL_listing_127 6 rfl ?_
                        refine v_bipush (v := 122) cx dL_listing_129 (by decide) ?_
                        refine v_icmp_gt (tgt := 138) cx dL_listing_131 (by decide) h (fun h => ?_) (fun h => ?_)
                        · refine v_lv (lv' := [(0, .ref q_p0), (1, .int x1), (2, .int (x2 + y_1)), (3, .int (x3 + y_2)), (4, .int (x4 + y_3)), (5, .int x5), (6, .int (q_listingByte z x5 : Int32))]) [0, 1, 2, 3, 4, 5, 6] rfl ?_
                          refine v_widen (k9 := (c9 + 1)) (n9 := (s9 + 6)) (ob3 (c := c9) (d := 1) (e := 1) rfl) (ob3 (c := s9) (d := 6) (e := 6) rfl) ?_
                          exact hj138 _ h hdk
                        · refine v_lv (lv' := [(0, .ref q_p0), (1, .int x1), (2, .int (x2 + y_1)), (3, .int (x3 + y_2)), (4, .int (x4 + y_3)), (5, .int x5), (6, .int (q_listingByte z x5 : Int32))]) [0, 1, 2, 3, 4, 5, 6] rfl ?_
                          refine v_widen (k9 := (c9 + 1)) (n9 := (s9 + 6)) (ob3 (c := c9) (d := 1) (e := 1) rfl) (ob3 (c := s9) (d := 6) (e := 6) rfl) ?_
                          exact hj134 _ h hdk
                    refine v_icmp_lt (tgt := 120) cx dL_listing_110 (by decide) h (fun h => ?_) (fun h => ?_)
                    · refine v_lv (lv' := [(0, .ref q_p0), (1, .int x1), (2, .int (x2 + y_1)), (3, .int (x3 + y_2)), (4, .int (x4 + y_3)), (5, .int x5), (6, .int (q_listingByte z x5 : Int32))]) [1, 2, 3, 4, 0, 5, 6] rfl ?_
                      refine v_widen (k9 := (c9 + 1)) (n9 := (s9 + 6)) (ob3 (c := c9) (d := 1) (e := 1) rfl) (ob3 (c := s9) (d := 6) (e := 6) rfl) ?_
                      exact hj120 _ h hdk
                    · refine v_iload cx dL_listing_113 6 rfl ?_
                      refine v_bipush (v := 57) cx dL_listing_115 (by decide) ?_
                      refine v_icmp_le (tgt := 134) cx dL_listing_117 (by decide) h (fun h => ?_) (fun h => ?_)
                      · refine v_lv (lv' := [(0, .ref q_p0), (1, .int x1), (2, .int (x2 + y_1)), (3, .int (x3 + y_2)), (4, .int (x4 + y_3)), (5, .int x5), (6, .int (q_listingByte z x5 : Int32))]) [1, 2, 3, 4, 0, 5, 6] rfl ?_
                        refine v_widen (k9 := (c9 + 1)) (n9 := (s9 + 6)) (ob3 (c := c9) (d := 1) (e := 1) rfl) (ob3 (c := s9) (d := 6) (e := 6) rfl) ?_
                        exact hj134 _ h hdk
                      · refine v_lv (lv' := [(0, .ref q_p0), (1, .int x1), (2, .int (x2 + y_1)), (3, .int (x3 + y_2)), (4, .int (x4 + y_3)), (5, .int x5), (6, .int (q_listingByte z x5 : Int32))]) [1, 2, 3, 4, 0, 5, 6] rfl ?_
                        refine v_widen (k9 := (c9 + 1)) (n9 := (s9 + 6)) (ob3 (c := c9) (d := 1) (e := 1) rfl) (ob3 (c := s9) (d := 6) (e := 6) rfl) ?_
                        exact hj120 _ h hdk
          refine v_icmp_ne (tgt := 74) cx dL_listing_67 (by decide) h (fun h => ?_) (fun h => ?_)
          · refine v_iconst (v := 0) cx dL_listing_74 (by decide) ?_
            refine v_lv (lv' := [(0, .ref q_p0), (1, .int x1), (2, .int (x2 + y_1)), (3, .int (x3 + y_2)), (4, .int x4), (5, .int x5), (6, .int (q_listingByte z x5 : Int32))]) [1, 2, 3, 0, 4, 5, 6] rfl ?_
            refine v_widen (k9 := (c9 + 1)) (n9 := (s9 + 6)) (ob3 (c := c9) (d := 1) (e := 1) rfl) (ob3 (c := s9) (d := 6) (e := 6) rfl) ?_
            exact hj75 0 _ h hdk
          · refine v_iconst (v := 1) cx dL_listing_70 (by decide) ?_
            refine v_goto (tgt := 75) cx dL_listing_71 (by decide) ?_
            refine v_lv (lv' := [(0, .ref q_p0), (1, .int x1), (2, .int (x2 + y_1)), (3, .int (x3 + y_2)), (4, .int x4), (5, .int x5), (6, .int (q_listingByte z x5 : Int32))]) [1, 2, 3, 0, 4, 5, 6] rfl ?_
            refine v_widen (k9 := (c9 + 1)) (n9 := (s9 + 6)) (ob3 (c := c9) (d := 1) (e := 1) rfl) (ob3 (c := s9) (d := 6) (e := 6) rfl) ?_
            exact hj75 1 _ h hdk
        refine v_icmp_ne (tgt := 58) cx dL_listing_51 (by decide) h (fun h => ?_) (fun h => ?_)
        · refine v_iconst (v := 0) cx dL_listing_58 (by decide) ?_
          refine v_lv (lv' := [(0, .ref q_p0), (1, .int x1), (2, .int (x2 + y_1)), (3, .int x3), (4, .int x4), (5, .int x5), (6, .int (q_listingByte z x5 : Int32))]) [1, 2, 0, 3, 4, 5, 6] rfl ?_
          refine v_widen (k9 := (c9 + 1)) (n9 := (s9 + 6)) (ob3 (c := c9) (d := 1) (e := 1) rfl) (ob3 (c := s9) (d := 6) (e := 6) rfl) ?_
          exact hj59 0 _ h hdk
        · refine v_iconst (v := 1) cx dL_listing_54 (by decide) ?_
          refine v_goto (tgt := 59) cx dL_listing_55 (by decide) ?_
          refine v_lv (lv' := [(0, .ref q_p0), (1, .int x1), (2, .int (x2 + y_1)), (3, .int x3), (4, .int x4), (5, .int x5), (6, .int (q_listingByte z x5 : Int32))]) [1, 2, 0, 3, 4, 5, 6] rfl ?_
          refine v_widen (k9 := (c9 + 1)) (n9 := (s9 + 6)) (ob3 (c := c9) (d := 1) (e := 1) rfl) (ob3 (c := s9) (d := 6) (e := 6) rfl) ?_
          exact hj59 1 _ h hdk
      refine v_icmp_ne (tgt := 43) cx dL_listing_36 (by decide) h (fun h => ?_) (fun h => ?_)
      · refine v_iconst (v := 0) cx dL_listing_43 (by decide) ?_
        refine v_lv (lv' := [(0, .ref q_p0), (1, .int x1), (2, .int x2), (3, .int x3), (4, .int x4), (5, .int x5), (6, .int (q_listingByte z x5 : Int32))]) [1, 2, 3, 4, 5, 6, 0] rfl ?_
        refine v_widen (k9 := (c9 + 1)) (n9 := (s9 + 6)) (ob3 (c := c9) (d := 1) (e := 1) rfl) (ob3 (c := s9) (d := 6) (e := 6) rfl) ?_
        exact hj44 0 _ h hdk
      · refine v_iconst (v := 1) cx dL_listing_39 (by decide) ?_
        refine v_goto (tgt := 44) cx dL_listing_40 (by decide) ?_
        refine v_lv (lv' := [(0, .ref q_p0), (1, .int x1), (2, .int x2), (3, .int x3), (4, .int x4), (5, .int x5), (6, .int (q_listingByte z x5 : Int32))]) [1, 2, 3, 4, 5, 6, 0] rfl ?_
        refine v_widen (k9 := (c9 + 1)) (n9 := (s9 + 6)) (ob3 (c := c9) (d := 1) (e := 1) rfl) (ob3 (c := s9) (d := 6) (e := 6) rfl) ?_
        exact hj44 1 _ h hdk
set_option maxHeartbeats 40000000 in
set_option maxRecDepth 100000 in
theorem c_L_listing (l : Launch) (hl : l.stackTraces = false) (g : gT) (D : va_G) (cy : Nat → ClassId) {q_p0 : Nat} {z : DS} {w : va_W} {Q : Int32 → Prop} (hdk : DK cy q_p0 z w) (h : p_L_listing z Q) : UC l yL_listing cL_listing 8 (some .boolean) rm_L_listing g D cy [.ref q_p0] w (fun v w => ∃ (r : Int32), v = some (.int r) ∧ DK cy q_p0 z w ∧ Q r) := by
  refine UC_of (by decide +kernel) (Nat.le_of_ble_eq_true rfl) [(0, .ref q_p0)] rfl (fun p e s m args below meth c A cx => ?_)
  unfold p_L_listing at h
  refine v_aload_n cx dL_listing_0 rfl 0 rfl ?_
  refine v_bipush (v := 10) cx dL_listing_1 (by decide) ?_
  refine a_whole cx hl (by decide) ⟨(Nat.le_of_ble_eq_true rfl), (Nat.le_of_ble_eq_true rfl)⟩ (Nat.le_of_ble_eq_true rfl) dL_listing_3 hdk (fun w hdk => ?_)
  refine v_istore_n (lv' := [(1, .int (q_whole z (10 : Int32) : Int32)), (0, .ref q_p0)]) cx dL_listing_6 rfl (by decide) rfl ?_
  refine v_iconst (v := 0) cx dL_listing_7 (by decide) ?_
  refine v_istore_n (lv' := [(2, .int 0), (1, .int (q_whole z (10 : Int32) : Int32)), (0, .ref q_p0)]) cx dL_listing_8 rfl (by decide) rfl ?_
  refine v_iconst (v := 0) cx dL_listing_9 (by decide) ?_
  refine v_istore_n (lv' := [(3, .int 0), (2, .int 0), (1, .int (q_whole z (10 : Int32) : Int32)), (0, .ref q_p0)]) cx dL_listing_10 rfl (by decide) rfl ?_
  refine v_iconst (v := 0) cx dL_listing_11 (by decide) ?_
  refine v_istore (lv' := [(4, .int 0), (3, .int 0), (2, .int 0), (1, .int (q_whole z (10 : Int32) : Int32)), (0, .ref q_p0)]) cx dL_listing_12 (by decide) rfl ?_
  refine v_iconst (v := 0) cx dL_listing_14 (by decide) ?_
  refine v_istore (lv' := [(5, .int 0), (4, .int 0), (3, .int 0), (2, .int 0), (1, .int (q_whole z (10 : Int32) : Int32)), (0, .ref q_p0)]) cx dL_listing_15 (by decide) rfl ?_
  refine v_lv (lv' := [(0, .ref q_p0), (1, .int (q_whole z (10 : Int32) : Int32)), (2, .int 0), (3, .int 0), (4, .int 0), (5, .int 0)]) [5, 4, 3, 2, 1, 0] rfl ?_
  refine w_L_listing_17 cx hl (cm := 1219) (sm := 7314) (Nat.le_of_ble_eq_true rfl) (Nat.le_of_ble_eq_true rfl) ?_ ?_ 609 _ _ (Nat.le_refl _) (Nat.le_refl _) _ _ _ _ _ h hdk
  · intro x2_5 x3_6 x4_7 x5_8 x6_9 x7_10 w h hdk
    refine v_iconst (v := 0) cx dL_listing_166 (by decide) ?_
    refine v_widen (k9 := 1221) (n9 := 7326) (Nat.le_of_ble_eq_true rfl) (Nat.le_of_ble_eq_true rfl) ?_
    exact v_ireturn cx rfl dL_listing_167 ⟨_, rfl, hdk, h⟩
  · intro x2_11 x3_12 x4_13 x5_14 w h hdk
    refine v_aload_n cx dL_listing_174 rfl 0 rfl ?_
    refine v_iconst (v := 0) cx dL_listing_175 (by decide) ?_
    refine a_whole cx hl (by decide) ⟨(Nat.le_of_ble_eq_true rfl), (Nat.le_of_ble_eq_true rfl)⟩ (Nat.le_of_ble_eq_true rfl) dL_listing_176 hdk (fun w hdk => ?_)
    refine v_istore (lv' := [(5, .int (q_whole z (0 : Int32) : Int32)), (0, .ref q_p0), (1, .int (q_whole z (10 : Int32) : Int32)), (2, .int x2_11), (3, .int x3_12), (4, .int x4_13)]) cx dL_listing_179 (by decide) rfl ?_
    refine v_aload_n cx dL_listing_181 rfl 1 rfl ?_
    refine v_iload_n cx dL_listing_182 rfl 2 rfl ?_
    refine a_listingByte cx hl (by decide) ⟨(Nat.le_of_ble_eq_true rfl), (Nat.le_of_ble_eq_true rfl)⟩ (Nat.le_of_ble_eq_true rfl) dL_listing_183 hdk (fun w hdk => ?_)
    refine v_iconst (v := (-1)) cx dL_listing_186 (by decide) ?_
    refine v_icmp_ne (tgt := 237) cx dL_listing_187 (by decide) h (fun h => ?_) (fun h => ?_)
    · refine v_iconst (v := 0) cx dL_listing_237 (by decide) ?_
      refine v_widen (k9 := 1221) (n9 := 7326) (Nat.le_of_ble_eq_true rfl) (Nat.le_of_ble_eq_true rfl) ?_
      exact v_ireturn cx rfl dL_listing_238 ⟨_, rfl, hdk, h⟩
    · refine v_iload_n cx dL_listing_190 rfl 4 rfl ?_
      refine v_iload cx dL_listing_191 0 rfl ?_
      refine v_icmp_ne (tgt := 237) cx dL_listing_193 (by decide) h (fun h => ?_) (fun h => ?_)
      · refine v_iconst (v := 0) cx dL_listing_237 (by decide) ?_
        refine v_widen (k9 := 1221) (n9 := 7326) (Nat.le_of_ble_eq_true rfl) (Nat.le_of_ble_eq_true rfl) ?_
        exact v_ireturn cx rfl dL_listing_238 ⟨_, rfl, hdk, h⟩
      · refine v_iload_n cx dL_listing_196 rfl 3 rfl ?_
        refine v_iload cx dL_listing_197 0 rfl ?_
        have hj210 : ∀ (y_15 : Int32) (w : va_W), p_L_listing_j210 x2_11 Q z x4_13 y_15 → DK cy q_p0 z w → vV p l e rm_L_listing s m args below meth c (MQ below (uQ D A (fun v w => ∃ (r : Int32), v = some (.int r) ∧ DK cy q_p0 z w ∧ Q r)) args s rm_L_listing.cells rm_L_listing.slots A) 8 D A 1221 7326 w 210 [(0, .ref q_p0), (1, .int (q_whole z (10 : Int32) : Int32)), (2, .int x2_11), (3, .int x3_12), (4, .int x4_13), (5, .int (q_whole z (0 : Int32) : Int32))] [.int y_15, .int x2_11] := by
          intro y_15 w h hdk
          unfold p_L_listing_j210 at h
          refine v_icmp_ne (tgt := 237) cx dL_listing_210 (by decide) h (fun h => ?_) (fun h => ?_)
          · refine v_iconst (v := 0) cx dL_listing_237 (by decide) ?_
            refine v_widen (k9 := 1221) (n9 := 7326) (Nat.le_of_ble_eq_true rfl) (Nat.le_of_ble_eq_true rfl) ?_
            exact v_ireturn cx rfl dL_listing_238 ⟨_, rfl, hdk, h⟩
          · refine v_iload cx dL_listing_213 4 rfl ?_
            refine v_iload cx dL_listing_215 5 rfl ?_
            have hj230 : ∀ (y_16 : Int32) (w : va_W), p_L_listing_j230 x4_13 Q y_16 → DK cy q_p0 z w → vV p l e rm_L_listing s m args below meth c (MQ below (uQ D A (fun v w => ∃ (r : Int32), v = some (.int r) ∧ DK cy q_p0 z w ∧ Q r)) args s rm_L_listing.cells rm_L_listing.slots A) 8 D A 1221 7326 w 230 [(0, .ref q_p0), (1, .int (q_whole z (10 : Int32) : Int32)), (2, .int x2_11), (3, .int x3_12), (4, .int x4_13), (5, .int (q_whole z (0 : Int32) : Int32))] [.int y_16, .int x4_13] := by
              intro y_16 w h hdk
              unfold p_L_listing_j230 at h
              refine v_icmp_ne (tgt := 237) cx dL_listing_230 (by decide) h (fun h => ?_) (fun h => ?_)
              · refine v_iconst (v := 0) cx dL_listing_237 (by decide) ?_
                refine v_widen (k9 := 1221) (n9 := 7326) (Nat.le_of_ble_eq_true rfl) (Nat.le_of_ble_eq_true rfl) ?_
                exact v_ireturn cx rfl dL_listing_238 ⟨_, rfl, hdk, h⟩
              · refine v_iconst (v := 1) cx dL_listing_233 (by decide) ?_
                refine v_goto (tgt := 238) cx dL_listing_234 (by decide) ?_
                refine v_widen (k9 := 1221) (n9 := 7326) (Nat.le_of_ble_eq_true rfl) (Nat.le_of_ble_eq_true rfl) ?_
                exact v_ireturn cx rfl dL_listing_238 ⟨_, rfl, hdk, h⟩
            refine v_if_ne (tgt := 224) cx dL_listing_217 (by decide) h (fun h => ?_) (fun h => ?_)
            · refine v_iconst (v := 4) cx dL_listing_224 (by decide) ?_
              refine v_iload cx dL_listing_225 5 rfl ?_
              refine v_imul cx dL_listing_227 ?_
              refine v_iconst (v := 1) cx dL_listing_228 (by decide) ?_
              refine v_isub cx dL_listing_229 ?_
              refine v_lv (lv' := [(0, .ref q_p0), (1, .int (q_whole z (10 : Int32) : Int32)), (2, .int x2_11), (3, .int x3_12), (4, .int x4_13), (5, .int (q_whole z (0 : Int32) : Int32))]) [0, 1, 2, 3, 4, 5] rfl ?_
              refine v_widen (k9 := 1221) (n9 := 7326) (Nat.le_of_ble_eq_true rfl) (Nat.le_of_ble_eq_true rfl) ?_
              exact hj230 (((4 : Int32) * (q_whole z (0 : Int32) : Int32)) - (1 : Int32)) _ h hdk
            · refine v_iconst (v := 0) cx dL_listing_220 (by decide) ?_
              refine v_goto (tgt := 230) cx dL_listing_221 (by decide) ?_
              refine v_lv (lv' := [(0, .ref q_p0), (1, .int (q_whole z (10 : Int32) : Int32)), (2, .int x2_11), (3, .int x3_12), (4, .int x4_13), (5, .int (q_whole z (0 : Int32) : Int32))]) [0, 1, 2, 3, 4, 5] rfl ?_
              refine v_widen (k9 := 1221) (n9 := 7326) (Nat.le_of_ble_eq_true rfl) (Nat.le_of_ble_eq_true rfl) ?_
              exact hj230 0 _ h hdk
        refine v_if_ne (tgt := 206) cx dL_listing_199 (by decide) h (fun h => ?_) (fun h => ?_)
        · refine v_iload cx dL_listing_206 0 rfl ?_
          refine v_iconst (v := 1) cx dL_listing_208 (by decide) ?_
          refine v_isub cx dL_listing_209 ?_
          refine v_lv (lv' := [(0, .ref q_p0), (1, .int (q_whole z (10 : Int32) : Int32)), (2, .int x2_11), (3, .int x3_12), (4, .int x4_13), (5, .int (q_whole z (0 : Int32) : Int32))]) [1, 2, 3, 4, 5, 0] rfl ?_
          refine v_widen (k9 := 1221) (n9 := 7326) (Nat.le_of_ble_eq_true rfl) (Nat.le_of_ble_eq_true rfl) ?_
          exact hj210 ((q_whole z (0 : Int32) : Int32) - (1 : Int32)) _ h hdk
        · refine v_iconst (v := 0) cx dL_listing_202 (by decide) ?_
          refine v_goto (tgt := 210) cx dL_listing_203 (by decide) ?_
          refine v_lv (lv' := [(0, .ref q_p0), (1, .int (q_whole z (10 : Int32) : Int32)), (2, .int x2_11), (3, .int x3_12), (4, .int x4_13), (5, .int (q_whole z (0 : Int32) : Int32))]) [1, 2, 3, 4, 5, 0] rfl ?_
          refine v_widen (k9 := 1221) (n9 := 7326) (Nat.le_of_ble_eq_true rfl) (Nat.le_of_ble_eq_true rfl) ?_
          exact hj210 0 _ h hdk

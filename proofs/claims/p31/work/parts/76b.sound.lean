abbrev rm_L_sound : Room := { frames := 9, cells := 724, slots := 4344, locals := 203 }
set_option maxHeartbeats 40000000 in
set_option maxRecDepth 100000 in
theorem w_L_sound_29 {p : Program} {l : Launch} {e : Env} {s : State} {m : MethodId} {args : Array Value} {below : List Frame} {meth : Method} {c : Code} {Q9 : State → Prop} {mn : String} {Ts : List Cond} {D : va_G} {cy : Nat → ClassId} {g : gT} {A : Nat → Prop} (cx : vC p s m args meth c cL_sound 9 (some .boolean) RL mn Ts D cy g A) (hl : l.stackTraces = false) {q_p0 : Nat} {x1 : Int32} {x2 : Int32} {x3 : Int32} {z : DS} {K29_160 : Int32 → Int32 → Int32 → Int32 → Int32 → Prop} {K29_168 : Int32 → Int32 → Int32 → Prop} {cm sm : Nat} (hcm : cm ≤ 724) (hsm : sm ≤ 4344) (hK160 : ∀ (x4 : Int32) (x5 : Int32) (x6 : Int32) (x7 : Int32) (x8 : Int32) (w : va_W), K29_160 x4 x5 x6 x7 x8 → DK cy q_p0 z w → vV p l e rm_L_sound s m args below meth c Q9 9 D A cm sm w 160 [(0, .ref q_p0), (1, .int x1), (2, .int x2), (3, .int x3), (4, .int x4), (5, .int x5), (6, .int x6), (7, .int x7), (8, .int x8)] []) (hK168 : ∀ (x4 : Int32) (x5 : Int32) (x6 : Int32) (w : va_W), K29_168 x4 x5 x6 → DK cy q_p0 z w → vV p l e rm_L_sound s m args below meth c Q9 9 D A cm sm w 168 [(0, .ref q_p0), (1, .int x1), (2, .int x2), (3, .int x3), (4, .int x4), (5, .int x5), (6, .int x6)] []) : ∀ (n c9 s9 : Nat), c9 + n * 3 ≤ cm → s9 + n * 18 ≤ sm → ∀ (x4 : Int32) (x5 : Int32) (x6 : Int32) (w : va_W), p_L_sound_29 z x3 K29_160 K29_168 n x4 x5 x6 → DK cy q_p0 z w → vV p l e rm_L_sound s m args below meth c Q9 9 D A c9 s9 w 29 [(0, .ref q_p0), (1, .int x1), (2, .int x2), (3, .int x3), (4, .int x4), (5, .int x5), (6, .int x6)] [] := by
  intro n
  induction n with
  | zero => intro c9 s9 hc9 hs9 x4 x5 x6 w h; exact False.elim h
  | succ n ih =>
    intro c9 s9 hc9 hs9 x4 x5 x6 w h hdk
    unfold p_L_sound_29 at h
    refine v_iload cx dL_sound_29 6 rfl ?_
    refine v_bipush (v := 6) cx dL_sound_31 (by decide) ?_
    refine v_icmp_ge (tgt := 168) cx dL_sound_33 (by decide) h (fun h => ?_) (fun h => ?_)
    · refine v_lv (lv' := [(0, .ref q_p0), (1, .int x1), (2, .int x2), (3, .int x3), (4, .int x4), (5, .int x5), (6, .int x6)]) [0, 1, 2, 3, 4, 5, 6] rfl ?_
      refine v_widen (k9 := cm) (n9 := sm) (ob2 (c := c9) (d := 0) hc9 rfl) (ob2 (c := s9) (d := 0) hs9 rfl) ?_
      exact hK168 _ _ _ _ h hdk
    · refine v_aload_n cx dL_sound_36 rfl 0 rfl ?_
      refine v_iload cx dL_sound_37 6 rfl ?_
      refine v_iconst (v := 3) cx dL_sound_39 (by decide) ?_
      refine v_idiv cx dL_sound_40 (by decide) ?_
      refine v_iload cx dL_sound_41 6 rfl ?_
      refine v_iconst (v := 3) cx dL_sound_43 (by decide) ?_
      refine v_irem cx dL_sound_44 (by decide) ?_
      refine v_iload_n cx dL_sound_45 rfl 3 rfl ?_
      refine a_weight cx hl (by decide) ⟨(ob1 (c := c9) (d := 1) hc9 hcm rfl), (ob1 (c := s9) (d := 6) hs9 hsm rfl)⟩ (Nat.le_of_ble_eq_true rfl) dL_sound_46 hdk (fun w hdk => ?_)
      refine v_istore (lv' := [(7, .int (q_weight z (x6 / (3 : Int32)) (x6 - x6 / 3 * 3) x3 : Int32)), (0, .ref q_p0), (1, .int x1), (2, .int x2), (3, .int x3), (4, .int x4), (5, .int x5), (6, .int x6)]) cx dL_sound_49 (by decide) rfl ?_
      refine v_aload_n cx dL_sound_51 rfl 1 rfl ?_
      refine v_iload cx dL_sound_52 7 rfl ?_
      refine v_iconst (v := 3) cx dL_sound_54 (by decide) ?_
      refine v_idiv cx dL_sound_55 (by decide) ?_
      refine v_iload cx dL_sound_56 7 rfl ?_
      refine v_iconst (v := 3) cx dL_sound_58 (by decide) ?_
      refine v_irem cx dL_sound_59 (by decide) ?_
      refine v_iload_n cx dL_sound_60 rfl 4 rfl ?_
      refine a_counting cx hl (by decide) ⟨(ob1 (c := c9) (d := 2) hc9 hcm rfl), (ob1 (c := s9) (d := 12) hs9 hsm rfl)⟩ (Nat.le_of_ble_eq_true rfl) dL_sound_61 hdk (fun w hdk => ?_)
      refine v_istore (lv' := [(8, .int (q_counting z (x6 / (3 : Int32)) (x6 - x6 / 3 * 3) x3 : Int32)), (7, .int (q_weight z (x6 / (3 : Int32)) (x6 - x6 / 3 * 3) x3 : Int32)), (0, .ref q_p0), (1, .int x1), (2, .int x2), (3, .int x3), (4, .int x4), (5, .int x5), (6, .int x6)]) cx dL_sound_64 (by decide) rfl ?_
      refine v_iload cx dL_sound_66 6 rfl ?_
      refine v_iload cx dL_sound_68 1 rfl ?_
      refine v_imul cx dL_sound_70 ?_
      refine v_sipush (v := 1000) cx dL_sound_71 (by decide) ?_
      refine v_idiv cx dL_sound_74 (by decide) ?_
      refine v_istore (lv' := [(4, .int ((x4 * (q_weight z (x6 / (3 : Int32)) (x6 - x6 / 3 * 3) x3 : Int32)) / (1000 : Int32))), (8, .int (q_counting z (x6 / (3 : Int32)) (x6 - x6 / 3 * 3) x3 : Int32)), (7, .int (q_weight z (x6 / (3 : Int32)) (x6 - x6 / 3 * 3) x3 : Int32)), (0, .ref q_p0), (1, .int x1), (2, .int x2), (3, .int x3), (5, .int x5), (6, .int x6)]) cx dL_sound_75 (by decide) rfl ?_
      refine v_iload cx dL_sound_77 7 rfl ?_
      have hj96 : ∀ (y_1 : Int32) (w : va_W), p_L_sound_j96 z x6 x3 K29_160 x4 (p_L_sound_29 z x3 K29_160 K29_168 n) y_1 → DK cy q_p0 z w → vV p l e rm_L_sound s m args below meth c Q9 9 D A (c9 + 2) (s9 + 12) w 96 [(0, .ref q_p0), (1, .int x1), (2, .int x2), (3, .int x3), (4, .int ((x4 * (q_weight z (x6 / (3 : Int32)) (x6 - x6 / 3 * 3) x3 : Int32)) / (1000 : Int32))), (5, .int x5), (6, .int x6), (7, .int (q_weight z (x6 / (3 : Int32)) (x6 - x6 / 3 * 3) x3 : Int32)), (8, .int (q_counting z (x6 / (3 : Int32)) (x6 - x6 / 3 * 3) x3 : Int32))] [.int y_1] := by
        intro y_1 w h hdk
        unfold p_L_sound_j96 at h
        refine v_istore (lv' := [(5, .int y_1), (0, .ref q_p0), (1, .int x1), (2, .int x2), (3, .int x3), (4, .int ((x4 * (q_weight z (x6 / (3 : Int32)) (x6 - x6 / 3 * 3) x3 : Int32)) / (1000 : Int32))), (6, .int x6), (7, .int (q_weight z (x6 / (3 : Int32)) (x6 - x6 / 3 * 3) x3 : Int32)), (8, .int (q_counting z (x6 / (3 : Int32)) (x6 - x6 / 3 * 3) x3 : Int32))]) cx dL_sound_96 (by decide) rfl ?_
        refine v_iload cx dL_sound_98 7 rfl ?_
        refine v_if_lt (tgt := 160) cx dL_sound_100 (by decide) h (fun h => ?_) (fun h => ?_)
        · refine v_lv (lv' := [(0, .ref q_p0), (1, .int x1), (2, .int x2), (3, .int x3), (4, .int ((x4 * (q_weight z (x6 / (3 : Int32)) (x6 - x6 / 3 * 3) x3 : Int32)) / (1000 : Int32))), (5, .int y_1), (6, .int x6), (7, .int (q_weight z (x6 / (3 : Int32)) (x6 - x6 / 3 * 3) x3 : Int32)), (8, .int (q_counting z (x6 / (3 : Int32)) (x6 - x6 / 3 * 3) x3 : Int32))]) [1, 2, 3, 4, 5, 0, 6, 7, 8] rfl ?_
          refine v_widen (k9 := cm) (n9 := sm) (ob2 (c := c9) (d := 2) hc9 rfl) (ob2 (c := s9) (d := 12) hs9 rfl) ?_
          exact hK160 _ _ _ _ _ _ h hdk
        · refine v_iload cx dL_sound_103 7 rfl ?_
          refine v_sipush (v := 1000) cx dL_sound_105 (by decide) ?_
          refine v_icmp_gt (tgt := 160) cx dL_sound_108 (by decide) h (fun h => ?_) (fun h => ?_)
          · refine v_lv (lv' := [(0, .ref q_p0), (1, .int x1), (2, .int x2), (3, .int x3), (4, .int ((x4 * (q_weight z (x6 / (3 : Int32)) (x6 - x6 / 3 * 3) x3 : Int32)) / (1000 : Int32))), (5, .int y_1), (6, .int x6), (7, .int (q_weight z (x6 / (3 : Int32)) (x6 - x6 / 3 * 3) x3 : Int32)), (8, .int (q_counting z (x6 / (3 : Int32)) (x6 - x6 / 3 * 3) x3 : Int32))]) [1, 2, 3, 4, 5, 0, 6, 7, 8] rfl ?_
            refine v_widen (k9 := cm) (n9 := sm) (ob2 (c := c9) (d := 2) hc9 rfl) (ob2 (c := s9) (d := 12) hs9 rfl) ?_
            exact hK160 _ _ _ _ _ _ h hdk
          · refine v_iload cx dL_sound_111 8 rfl ?_
            have hj136 : ∀ (w : va_W), p_L_sound_j136 z x6 x3 (p_L_sound_29 z x3 K29_160 K29_168 n) x4 y_1 K29_160 → DK cy q_p0 z w → vV p l e rm_L_sound s m args below meth c Q9 9 D A (c9 + 3) (s9 + 18) w 136 [(0, .ref q_p0), (1, .int x1), (2, .int x2), (3, .int x3), (4, .int ((x4 * (q_weight z (x6 / (3 : Int32)) (x6 - x6 / 3 * 3) x3 : Int32)) / (1000 : Int32))), (5, .int y_1), (6, .int x6), (7, .int (q_weight z (x6 / (3 : Int32)) (x6 - x6 / 3 * 3) x3 : Int32)), (8, .int (q_counting z (x6 / (3 : Int32)) (x6 - x6 / 3 * 3) x3 : Int32))] [] := by
              intro w h hdk
              unfold p_L_sound_j136 at h
              refine v_iload cx dL_sound_136 8 rfl ?_
              refine v_if_ge (tgt := 162) cx dL_sound_138 (by decide) h (fun h => ?_) (fun h => ?_)
              · refine v_iinc (v := x6 + 1) (k0 := 6) (lv' := [(6, .int (x6 + 1)), (0, .ref q_p0), (1, .int x1), (2, .int x2), (3, .int x3), (4, .int ((x4 * (q_weight z (x6 / (3 : Int32)) (x6 - x6 / 3 * 3) x3 : Int32)) / (1000 : Int32))), (5, .int y_1), (7, .int (q_weight z (x6 / (3 : Int32)) (x6 - x6 / 3 * 3) x3 : Int32)), (8, .int (q_counting z (x6 / (3 : Int32)) (x6 - x6 / 3 * 3) x3 : Int32))]) cx dL_sound_162 rfl rfl (by decide) rfl ?_
                refine v_goto (tgt := 29) cx dL_sound_165 (by decide) ?_
                refine v_lv (lv' := [(0, .ref q_p0), (1, .int x1), (2, .int x2), (3, .int x3), (4, .int ((x4 * (q_weight z (x6 / (3 : Int32)) (x6 - x6 / 3 * 3) x3 : Int32)) / (1000 : Int32))), (5, .int y_1), (6, .int (x6 + 1))]) [1, 2, 3, 4, 5, 6, 0] rfl ?_
                refine v_widen (k9 := (c9 + 3)) (n9 := (s9 + 18)) (ob3 (c := c9) (d := 3) (e := 3) rfl) (ob3 (c := s9) (d := 18) (e := 18) rfl) ?_
                exact ih _ _ (ob4 hc9) (ob4 hs9) _ _ _ _ h hdk
              · refine v_iload cx dL_sound_141 8 rfl ?_
                refine v_iconst (v := (-1)) cx dL_sound_143 (by decide) ?_
                refine v_icmp_ne (tgt := 160) cx dL_sound_144 (by decide) h (fun h => ?_) (fun h => ?_)
                · refine v_lv (lv' := [(0, .ref q_p0), (1, .int x1), (2, .int x2), (3, .int x3), (4, .int ((x4 * (q_weight z (x6 / (3 : Int32)) (x6 - x6 / 3 * 3) x3 : Int32)) / (1000 : Int32))), (5, .int y_1), (6, .int x6), (7, .int (q_weight z (x6 / (3 : Int32)) (x6 - x6 / 3 * 3) x3 : Int32)), (8, .int (q_counting z (x6 / (3 : Int32)) (x6 - x6 / 3 * 3) x3 : Int32))]) [0, 1, 2, 3, 4, 5, 6, 7, 8] rfl ?_
                  refine v_widen (k9 := cm) (n9 := sm) (ob2 (c := c9) (d := 3) hc9 rfl) (ob2 (c := s9) (d := 18) hs9 rfl) ?_
                  exact hK160 _ _ _ _ _ _ h hdk
                · refine v_iload cx dL_sound_147 7 rfl ?_
                  refine v_if_eq (tgt := 162) cx dL_sound_149 (by decide) h (fun h => ?_) (fun h => ?_)
                  · refine v_iinc (v := x6 + 1) (k0 := 6) (lv' := [(6, .int (x6 + 1)), (0, .ref q_p0), (1, .int x1), (2, .int x2), (3, .int x3), (4, .int ((x4 * (q_weight z (x6 / (3 : Int32)) (x6 - x6 / 3 * 3) x3 : Int32)) / (1000 : Int32))), (5, .int y_1), (7, .int (q_weight z (x6 / (3 : Int32)) (x6 - x6 / 3 * 3) x3 : Int32)), (8, .int (q_counting z (x6 / (3 : Int32)) (x6 - x6 / 3 * 3) x3 : Int32))]) cx dL_sound_162 rfl rfl (by decide) rfl ?_
                    refine v_goto (tgt := 29) cx dL_sound_165 (by decide) ?_
                    refine v_lv (lv' := [(0, .ref q_p0), (1, .int x1), (2, .int x2), (3, .int x3), (4, .int ((x4 * (q_weight z (x6 / (3 : Int32)) (x6 - x6 / 3 * 3) x3 : Int32)) / (1000 : Int32))), (5, .int y_1), (6, .int (x6 + 1))]) [1, 2, 3, 4, 5, 6, 0] rfl ?_
                    refine v_widen (k9 := (c9 + 3)) (n9 := (s9 + 18)) (ob3 (c := c9) (d := 3) (e := 3) rfl) (ob3 (c := s9) (d := 18) (e := 18) rfl) ?_
                    exact ih _ _ (ob4 hc9) (ob4 hs9) _ _ _ _ h hdk
                  · refine v_iload cx dL_sound_152 7 rfl ?_
                    refine v_sipush (v := 1000) cx dL_sound_154 (by decide) ?_
                    refine v_icmp_eq (tgt := 162) cx dL_sound_157 (by decide) h (fun h => ?_) (fun h => ?_)
                    · refine v_iinc (v := x6 + 1) (k0 := 6) (lv' := [(6, .int (x6 + 1)), (0, .ref q_p0), (1, .int x1), (2, .int x2), (3, .int x3), (4, .int ((x4 * (q_weight z (x6 / (3 : Int32)) (x6 - x6 / 3 * 3) x3 : Int32)) / (1000 : Int32))), (5, .int y_1), (7, .int (q_weight z (x6 / (3 : Int32)) (x6 - x6 / 3 * 3) x3 : Int32)), (8, .int (q_counting z (x6 / (3 : Int32)) (x6 - x6 / 3 * 3) x3 : Int32))]) cx dL_sound_162 rfl rfl (by decide) rfl ?_
                      refine v_goto (tgt := 29) cx dL_sound_165 (by decide) ?_
                      refine v_lv (lv' := [(0, .ref q_p0), (1, .int x1), (2, .int x2), (3, .int x3), (4, .int ((x4 * (q_weight z (x6 / (3 : Int32)) (x6 - x6 / 3 * 3) x3 : Int32)) / (1000 : Int32))), (5, .int y_1), (6, .int (x6 + 1))]) [1, 2, 3, 4, 5, 6, 0] rfl ?_
                      refine v_widen (k9 := (c9 + 3)) (n9 := (s9 + 18)) (ob3 (c := c9) (d := 3) (e := 3) rfl) (ob3 (c := s9) (d := 18) (e := 18) rfl) ?_
                      exact ih _ _ (ob4 hc9) (ob4 hs9) _ _ _ _ h hdk
                    · refine v_lv (lv' := [(0, .ref q_p0), (1, .int x1), (2, .int x2), (3, .int x3), (4, .int ((x4 * (q_weight z (x6 / (3 : Int32)) (x6 - x6 / 3 * 3) x3 : Int32)) / (1000 : Int32))), (5, .int y_1), (6, .int x6), (7, .int (q_weight z (x6 / (3 : Int32)) (x6 - x6 / 3 * 3) x3 : Int32)), (8, .int (q_counting z (x6 / (3 : Int32)) (x6 - x6 / 3 * 3) x3 : Int32))]) [0, 1, 2, 3, 4, 5, 6, 7, 8] rfl ?_
                      refine v_widen (k9 := cm) (n9 := sm) (ob2 (c := c9) (d := 3) hc9 rfl) (ob2 (c := s9) (d := 18) hs9 rfl) ?_
                      exact hK160 _ _ _ _ _ _ h hdk
            refine v_if_lt (tgt := 136) cx dL_sound_113 (by decide) h (fun h => ?_) (fun h => ?_)
            · refine v_lv (lv' := [(0, .ref q_p0), (1, .int x1), (2, .int x2), (3, .int x3), (4, .int ((x4 * (q_weight z (x6 / (3 : Int32)) (x6 - x6 / 3 * 3) x3 : Int32)) / (1000 : Int32))), (5, .int y_1), (6, .int x6), (7, .int (q_weight z (x6 / (3 : Int32)) (x6 - x6 / 3 * 3) x3 : Int32)), (8, .int (q_counting z (x6 / (3 : Int32)) (x6 - x6 / 3 * 3) x3 : Int32))]) [1, 2, 3, 4, 5, 0, 6, 7, 8] rfl ?_
              refine v_widen (k9 := (c9 + 3)) (n9 := (s9 + 18)) (ob3 (c := c9) (d := 2) (e := 3) rfl) (ob3 (c := s9) (d := 12) (e := 18) rfl) ?_
              exact hj136 _ h hdk
            · refine v_aload_n cx dL_sound_116 rfl 1 rfl ?_
              refine v_iload cx dL_sound_117 6 rfl ?_
              refine v_iconst (v := 3) cx dL_sound_119 (by decide) ?_
              refine v_idiv cx dL_sound_120 (by decide) ?_
              refine v_iload cx dL_sound_121 6 rfl ?_
              refine v_iconst (v := 3) cx dL_sound_123 (by decide) ?_
              refine v_irem cx dL_sound_124 (by decide) ?_
              refine v_iload cx dL_sound_125 8 rfl ?_
              refine v_iconst (v := 0) cx dL_sound_127 (by decide) ?_
              refine a_entry cx hl (by decide) ⟨(ob1 (c := c9) (d := 3) hc9 hcm rfl), (ob1 (c := s9) (d := 18) hs9 hsm rfl)⟩ (Nat.le_of_ble_eq_true rfl) dL_sound_128 hdk (fun w hdk => ?_)
              refine v_iload cx dL_sound_131 7 rfl ?_
              refine v_icmp_ne (tgt := 160) cx dL_sound_133 (by decide) h (fun h => ?_) (fun h => ?_)
              · refine v_lv (lv' := [(0, .ref q_p0), (1, .int x1), (2, .int x2), (3, .int x3), (4, .int ((x4 * (q_weight z (x6 / (3 : Int32)) (x6 - x6 / 3 * 3) x3 : Int32)) / (1000 : Int32))), (5, .int y_1), (6, .int x6), (7, .int (q_weight z (x6 / (3 : Int32)) (x6 - x6 / 3 * 3) x3 : Int32)), (8, .int (q_counting z (x6 / (3 : Int32)) (x6 - x6 / 3 * 3) x3 : Int32))]) [1, 2, 3, 4, 5, 0, 6, 7, 8] rfl ?_
                refine v_widen (k9 := cm) (n9 := sm) (ob2 (c := c9) (d := 3) hc9 rfl) (ob2 (c := s9) (d := 18) hs9 rfl) ?_
                exact hK160 _ _ _ _ _ _ h hdk
              · refine v_lv (lv' := [(0, .ref q_p0), (1, .int x1), (2, .int x2), (3, .int x3), (4, .int ((x4 * (q_weight z (x6 / (3 : Int32)) (x6 - x6 / 3 * 3) x3 : Int32)) / (1000 : Int32))), (5, .int y_1), (6, .int x6), (7, .int (q_weight z (x6 / (3 : Int32)) (x6 - x6 / 3 * 3) x3 : Int32)), (8, .int (q_counting z (x6 / (3 : Int32)) (x6 - x6 / 3 * 3) x3 : Int32))]) [1, 2, 3, 4, 5, 0, 6, 7, 8] rfl ?_
                refine v_widen (k9 := (c9 + 3)) (n9 := (s9 + 18)) (ob3 (c := c9) (d := 3) (e := 3) rfl) (ob3 (c := s9) (d := 18) (e := 18) rfl) ?_
                exact hj136 _ h hdk
      have hj94 : ∀ (w : va_W), p_L_sound_j94 z x6 x3 K29_160 x4 (p_L_sound_29 z x3 K29_160 K29_168 n) x5 → DK cy q_p0 z w → vV p l e rm_L_sound s m args below meth c Q9 9 D A (c9 + 2) (s9 + 12) w 94 [(0, .ref q_p0), (1, .int x1), (2, .int x2), (3, .int x3), (4, .int ((x4 * (q_weight z (x6 / (3 : Int32)) (x6 - x6 / 3 * 3) x3 : Int32)) / (1000 : Int32))), (5, .int x5), (6, .int x6), (7, .int (q_weight z (x6 / (3 : Int32)) (x6 - x6 / 3 * 3) x3 : Int32)), (8, .int (q_counting z (x6 / (3 : Int32)) (x6 - x6 / 3 * 3) x3 : Int32))] [] := by
        intro w h hdk
        unfold p_L_sound_j94 at h
        refine v_iload cx dL_sound_94 5 rfl ?_
        refine v_lv (lv' := [(0, .ref q_p0), (1, .int x1), (2, .int x2), (3, .int x3), (4, .int ((x4 * (q_weight z (x6 / (3 : Int32)) (x6 - x6 / 3 * 3) x3 : Int32)) / (1000 : Int32))), (5, .int x5), (6, .int x6), (7, .int (q_weight z (x6 / (3 : Int32)) (x6 - x6 / 3 * 3) x3 : Int32)), (8, .int (q_counting z (x6 / (3 : Int32)) (x6 - x6 / 3 * 3) x3 : Int32))]) [0, 1, 2, 3, 4, 5, 6, 7, 8] rfl ?_
        refine v_widen (k9 := (c9 + 2)) (n9 := (s9 + 12)) (ob3 (c := c9) (d := 2) (e := 2) rfl) (ob3 (c := s9) (d := 12) (e := 12) rfl) ?_
        exact hj96 x5 _ h hdk
      refine v_if_ne (tgt := 94) cx dL_sound_79 (by decide) h (fun h => ?_) (fun h => ?_)
      · refine v_lv (lv' := [(0, .ref q_p0), (1, .int x1), (2, .int x2), (3, .int x3), (4, .int ((x4 * (q_weight z (x6 / (3 : Int32)) (x6 - x6 / 3 * 3) x3 : Int32)) / (1000 : Int32))), (5, .int x5), (6, .int x6), (7, .int (q_weight z (x6 / (3 : Int32)) (x6 - x6 / 3 * 3) x3 : Int32)), (8, .int (q_counting z (x6 / (3 : Int32)) (x6 - x6 / 3 * 3) x3 : Int32))]) [3, 4, 5, 6, 0, 7, 8, 2, 1] rfl ?_
        refine v_widen (k9 := (c9 + 2)) (n9 := (s9 + 12)) (ob3 (c := c9) (d := 2) (e := 2) rfl) (ob3 (c := s9) (d := 12) (e := 12) rfl) ?_
        exact hj94 _ h hdk
      · refine v_iload cx dL_sound_82 2 rfl ?_
        refine v_if_ne (tgt := 94) cx dL_sound_84 (by decide) h (fun h => ?_) (fun h => ?_)
        · refine v_lv (lv' := [(0, .ref q_p0), (1, .int x1), (2, .int x2), (3, .int x3), (4, .int ((x4 * (q_weight z (x6 / (3 : Int32)) (x6 - x6 / 3 * 3) x3 : Int32)) / (1000 : Int32))), (5, .int x5), (6, .int x6), (7, .int (q_weight z (x6 / (3 : Int32)) (x6 - x6 / 3 * 3) x3 : Int32)), (8, .int (q_counting z (x6 / (3 : Int32)) (x6 - x6 / 3 * 3) x3 : Int32))]) [3, 4, 5, 6, 0, 7, 8, 2, 1] rfl ?_
          refine v_widen (k9 := (c9 + 2)) (n9 := (s9 + 12)) (ob3 (c := c9) (d := 2) (e := 2) rfl) (ob3 (c := s9) (d := 12) (e := 12) rfl) ?_
          exact hj94 _ h hdk
        · refine v_iconst (v := 1) cx dL_sound_87 (by decide) ?_
          refine v_iload cx dL_sound_88 8 rfl ?_
          refine v_iadd cx dL_sound_90 ?_
          refine v_goto (tgt := 96) cx dL_sound_91 (by decide) ?_
          refine v_lv (lv' := [(0, .ref q_p0), (1, .int x1), (2, .int x2), (3, .int x3), (4, .int ((x4 * (q_weight z (x6 / (3 : Int32)) (x6 - x6 / 3 * 3) x3 : Int32)) / (1000 : Int32))), (5, .int x5), (6, .int x6), (7, .int (q_weight z (x6 / (3 : Int32)) (x6 - x6 / 3 * 3) x3 : Int32)), (8, .int (q_counting z (x6 / (3 : Int32)) (x6 - x6 / 3 * 3) x3 : Int32))]) [3, 4, 5, 6, 0, 7, 8, 2, 1] rfl ?_
          refine v_widen (k9 := (c9 + 2)) (n9 := (s9 + 12)) (ob3 (c := c9) (d := 2) (e := 2) rfl) (ob3 (c := s9) (d := 12) (e := 12) rfl) ?_
          exact hj96 ((1 : Int32) + x6) _ h hdk
set_option maxHeartbeats 40000000 in
set_option maxRecDepth 100000 in
theorem w_L_sound_10 {p : Program} {l : Launch} {e : Env} {s : State} {m : MethodId} {args : Array Value} {below : List Frame} {meth : Method} {c : Code} {Q9 : State → Prop} {mn : String} {Ts : List Cond} {D : va_G} {cy : Nat → ClassId} {g : gT} {A : Nat → Prop} (cx : vC p s m args meth c cL_sound 9 (some .boolean) RL mn Ts D cy g A) (hl : l.stackTraces = false) {q_p0 : Nat} {x1 : Int32} {z : DS} {K10_160 : Int32 → Int32 → Int32 → Int32 → Int32 → Int32 → Int32 → Prop} {K10_323 : Int32 → Int32 → Int32 → Int32 → Int32 → Prop} {K10_331 : Int32 → Int32 → Prop} {cm sm : Nat} (hcm : cm ≤ 724) (hsm : sm ≤ 4344) (hK160 : ∀ (x2 : Int32) (x3 : Int32) (x4 : Int32) (x5 : Int32) (x6 : Int32) (x7 : Int32) (x8 : Int32) (w : va_W), K10_160 x2 x3 x4 x5 x6 x7 x8 → DK cy q_p0 z w → vV p l e rm_L_sound s m args below meth c Q9 9 D A cm sm w 160 [(0, .ref q_p0), (1, .int x1), (2, .int x2), (3, .int x3), (4, .int x4), (5, .int x5), (6, .int x6), (7, .int x7), (8, .int x8)] []) (hK323 : ∀ (x2 : Int32) (x3 : Int32) (x4 : Int32) (x5 : Int32) (x6 : Int32) (w : va_W), K10_323 x2 x3 x4 x5 x6 → DK cy q_p0 z w → vV p l e rm_L_sound s m args below meth c Q9 9 D A cm sm w 323 [(0, .ref q_p0), (1, .int x1), (2, .int x2), (3, .int x3), (4, .int x4), (5, .int x5), (6, .int x6)] []) (hK331 : ∀ (x2 : Int32) (x3 : Int32) (w : va_W), K10_331 x2 x3 → DK cy q_p0 z w → vV p l e rm_L_sound s m args below meth c Q9 9 D A cm sm w 331 [(0, .ref q_p0), (1, .int x1), (2, .int x2), (3, .int x3)] []) : ∀ (n c9 s9 : Nat), c9 + n * 31 ≤ cm → s9 + n * 186 ≤ sm → ∀ (x2 : Int32) (x3 : Int32) (w : va_W), p_L_sound_10 x1 z K10_160 K10_323 K10_331 n x2 x3 → DK cy q_p0 z w → vV p l e rm_L_sound s m args below meth c Q9 9 D A c9 s9 w 10 [(0, .ref q_p0), (1, .int x1), (2, .int x2), (3, .int x3)] [] := by
  intro n
  induction n with
  | zero => intro c9 s9 hc9 hs9 x2 x3 w h; exact False.elim h
  | succ n ih =>
    intro c9 s9 hc9 hs9 x2 x3 w h hdk
    unfold p_L_sound_10 at h
    refine v_iload_n cx dL_sound_10 rfl 3 rfl ?_
    refine v_iload_n cx dL_sound_11 rfl 1 rfl ?_
    refine v_icmp_ge (tgt := 331) cx dL_sound_12 (by decide) h (fun h => ?_) (fun h => ?_)
    · refine v_lv (lv' := [(0, .ref q_p0), (1, .int x1), (2, .int x2), (3, .int x3)]) [0, 1, 2, 3] rfl ?_
      refine v_widen (k9 := cm) (n9 := sm) (ob2 (c := c9) (d := 0) hc9 rfl) (ob2 (c := s9) (d := 0) hs9 rfl) ?_
      exact hK331 _ _ _ h hdk
    · refine v_aload_n cx dL_sound_15 rfl 0 rfl ?_
      refine v_iload_n cx dL_sound_16 rfl 3 rfl ?_
      refine v_iconst (v := 1) cx dL_sound_17 (by decide) ?_
      refine a_variant cx hl (by decide) ⟨(ob1 (c := c9) (d := 1) hc9 hcm rfl), (ob1 (c := s9) (d := 6) hs9 hsm rfl)⟩ (Nat.le_of_ble_eq_true rfl) dL_sound_18 hdk (fun w hdk => ?_)
      refine v_istore (lv' := [(4, .int (q_variant z x3 (1 : Int32) : Int32)), (0, .ref q_p0), (1, .int x1), (2, .int x2), (3, .int x3)]) cx dL_sound_21 (by decide) rfl ?_
      refine v_iconst (v := 0) cx dL_sound_23 (by decide) ?_
      refine v_istore (lv' := [(5, .int 0), (4, .int (q_variant z x3 (1 : Int32) : Int32)), (0, .ref q_p0), (1, .int x1), (2, .int x2), (3, .int x3)]) cx dL_sound_24 (by decide) rfl ?_
      refine v_iconst (v := 0) cx dL_sound_26 (by decide) ?_
      refine v_istore (lv' := [(6, .int 0), (5, .int 0), (4, .int (q_variant z x3 (1 : Int32) : Int32)), (0, .ref q_p0), (1, .int x1), (2, .int x2), (3, .int x3)]) cx dL_sound_27 (by decide) rfl ?_
      refine v_lv (lv' := [(0, .ref q_p0), (1, .int x1), (2, .int x2), (3, .int x3), (4, .int (q_variant z x3 (1 : Int32) : Int32)), (5, .int 0), (6, .int 0)]) [3, 4, 5, 6, 2, 1, 0] rfl ?_
      refine w_L_sound_29 cx hl (cm := (c9 + 22)) (sm := (s9 + 132)) (ob1 (c := c9) (d := 22) hc9 hcm rfl) (ob1 (c := s9) (d := 132) hs9 hsm rfl) ?_ ?_ 7 _ _ (Nat.le_refl _) (Nat.le_refl _) _ _ _ _ h hdk
      · intro x4_2 x5_3 x6_4 x7_5 x8_6 w h hdk
        refine v_lv (lv' := [(0, .ref q_p0), (1, .int x1), (2, .int x2), (3, .int x3), (4, .int x4_2), (5, .int x5_3), (6, .int x6_4), (7, .int x7_5), (8, .int x8_6)]) [0, 1, 2, 3, 4, 5, 6, 7, 8] rfl ?_
        refine v_widen (k9 := cm) (n9 := sm) (ob2 (c := c9) (d := 22) hc9 rfl) (ob2 (c := s9) (d := 132) hs9 rfl) ?_
        exact hK160 _ _ _ _ _ _ _ _ h hdk
      · intro x4_7 x5_8 x6_9 w h hdk
        refine v_iload cx dL_sound_168 4 rfl ?_
        have hj203 : ∀ (y_10 : Int32) (w : va_W), p_L_sound_j203 x4_7 z x3 K10_323 x2 (p_L_sound_10 x1 z K10_160 K10_323 K10_331 n) y_10 → DK cy q_p0 z w → vV p l e rm_L_sound s m args below meth c Q9 9 D A (c9 + 23) (s9 + 138) w 203 [(0, .ref q_p0), (1, .int x1), (2, .int x2), (3, .int x3), (4, .int x4_7), (5, .int x5_8), (6, .int x6_9)] [.int y_10] := by
          intro y_10 w h hdk
          unfold p_L_sound_j203 at h
          refine v_istore (lv' := [(5, .int y_10), (0, .ref q_p0), (1, .int x1), (2, .int x2), (3, .int x3), (4, .int x4_7), (6, .int x6_9)]) cx dL_sound_203 (by decide) rfl ?_
          refine v_aload_n cx dL_sound_205 rfl 1 rfl ?_
          refine v_iload_n cx dL_sound_206 rfl 4 rfl ?_
          refine v_iconst (v := 4) cx dL_sound_207 (by decide) ?_
          refine a_variant cx hl (by decide) ⟨(ob1 (c := c9) (d := 24) hc9 hcm rfl), (ob1 (c := s9) (d := 144) hs9 hsm rfl)⟩ (Nat.le_of_ble_eq_true rfl) dL_sound_208 hdk (fun w hdk => ?_)
          refine v_istore (lv' := [(6, .int (q_variant z x3 (4 : Int32) : Int32)), (5, .int y_10), (0, .ref q_p0), (1, .int x1), (2, .int x2), (3, .int x3), (4, .int x4_7)]) cx dL_sound_211 (by decide) rfl ?_
          refine v_iload_n cx dL_sound_213 rfl 4 rfl ?_
          refine v_iload cx dL_sound_214 6 rfl ?_
          have hj224 : ∀ (y_11 : Int32) (w : va_W), p_L_sound_j224 z x3 x4_7 K10_323 x2 y_10 (p_L_sound_10 x1 z K10_160 K10_323 K10_331 n) y_11 → DK cy q_p0 z w → vV p l e rm_L_sound s m args below meth c Q9 9 D A (c9 + 24) (s9 + 144) w 224 [(0, .ref q_p0), (1, .int x1), (2, .int x2), (3, .int x3), (4, .int x4_7), (5, .int y_10), (6, .int (q_variant z x3 (4 : Int32) : Int32))] [.int y_11, .int x2] := by
            intro y_11 w h hdk
            unfold p_L_sound_j224 at h
            refine v_iadd cx dL_sound_224 ?_
            refine v_istore_n (lv' := [(2, .int (x2 + y_11)), (0, .ref q_p0), (1, .int x1), (3, .int x3), (4, .int x4_7), (5, .int y_10), (6, .int (q_variant z x3 (4 : Int32) : Int32))]) cx dL_sound_225 rfl (by decide) rfl ?_
            refine v_aload_n cx dL_sound_226 rfl 1 rfl ?_
            refine v_iload_n cx dL_sound_227 rfl 3 rfl ?_
            refine v_iconst (v := 2) cx dL_sound_228 (by decide) ?_
            refine a_variant cx hl (by decide) ⟨(ob1 (c := c9) (d := 25) hc9 hcm rfl), (ob1 (c := s9) (d := 150) hs9 hsm rfl)⟩ (Nat.le_of_ble_eq_true rfl) dL_sound_229 hdk (fun w hdk => ?_)
            refine v_iload cx dL_sound_232 4 rfl ?_
            refine v_icmp_ne (tgt := 323) cx dL_sound_234 (by decide) h (fun h => ?_) (fun h => ?_)
            · refine v_lv (lv' := [(0, .ref q_p0), (1, .int x1), (2, .int (x2 + y_11)), (3, .int x3), (4, .int x4_7), (5, .int y_10), (6, .int (q_variant z x3 (4 : Int32) : Int32))]) [1, 2, 0, 3, 4, 5, 6] rfl ?_
              refine v_widen (k9 := cm) (n9 := sm) (ob2 (c := c9) (d := 25) hc9 rfl) (ob2 (c := s9) (d := 150) hs9 rfl) ?_
              exact hK323 _ _ _ _ _ _ h hdk
            · refine v_aload_n cx dL_sound_237 rfl 1 rfl ?_
              refine v_iload_n cx dL_sound_238 rfl 3 rfl ?_
              refine v_iconst (v := 3) cx dL_sound_239 (by decide) ?_
              refine a_variant cx hl (by decide) ⟨(ob1 (c := c9) (d := 26) hc9 hcm rfl), (ob1 (c := s9) (d := 156) hs9 hsm rfl)⟩ (Nat.le_of_ble_eq_true rfl) dL_sound_240 hdk (fun w hdk => ?_)
              refine v_iload cx dL_sound_243 5 rfl ?_
              refine v_icmp_ne (tgt := 323) cx dL_sound_245 (by decide) h (fun h => ?_) (fun h => ?_)
              · refine v_lv (lv' := [(0, .ref q_p0), (1, .int x1), (2, .int (x2 + y_11)), (3, .int x3), (4, .int x4_7), (5, .int y_10), (6, .int (q_variant z x3 (4 : Int32) : Int32))]) [1, 2, 0, 3, 4, 5, 6] rfl ?_
                refine v_widen (k9 := cm) (n9 := sm) (ob2 (c := c9) (d := 26) hc9 rfl) (ob2 (c := s9) (d := 156) hs9 rfl) ?_
                exact hK323 _ _ _ _ _ _ h hdk
              · refine v_iload cx dL_sound_248 6 rfl ?_
                refine v_iconst (v := (-1)) cx dL_sound_250 (by decide) ?_
                have hj259 : ∀ (y_12 : Int32) (w : va_W), p_L_sound_j259 x4_7 K10_323 x2 y_11 x3 y_10 z (p_L_sound_10 x1 z K10_160 K10_323 K10_331 n) y_12 → DK cy q_p0 z w → vV p l e rm_L_sound s m args below meth c Q9 9 D A (c9 + 26) (s9 + 156) w 259 [(0, .ref q_p0), (1, .int x1), (2, .int (x2 + y_11)), (3, .int x3), (4, .int x4_7), (5, .int y_10), (6, .int (q_variant z x3 (4 : Int32) : Int32))] [.int y_12] := by
                  intro y_12 w h hdk
                  unfold p_L_sound_j259 at h
                  refine v_iload cx dL_sound_259 4 rfl ?_
                  have hj269 : ∀ (y_13 : Int32) (w : va_W), p_L_sound_j269 y_12 K10_323 x2 y_11 x3 x4_7 y_10 z (p_L_sound_10 x1 z K10_160 K10_323 K10_331 n) y_13 → DK cy q_p0 z w → vV p l e rm_L_sound s m args below meth c Q9 9 D A (c9 + 26) (s9 + 156) w 269 [(0, .ref q_p0), (1, .int x1), (2, .int (x2 + y_11)), (3, .int x3), (4, .int x4_7), (5, .int y_10), (6, .int (q_variant z x3 (4 : Int32) : Int32))] [.int y_13, .int y_12] := by
                    intro y_13 w h hdk
                    unfold p_L_sound_j269 at h
                    refine v_icmp_ne (tgt := 323) cx dL_sound_269 (by decide) h (fun h => ?_) (fun h => ?_)
                    · refine v_lv (lv' := [(0, .ref q_p0), (1, .int x1), (2, .int (x2 + y_11)), (3, .int x3), (4, .int x4_7), (5, .int y_10), (6, .int (q_variant z x3 (4 : Int32) : Int32))]) [0, 1, 2, 3, 4, 5, 6] rfl ?_
                      refine v_widen (k9 := cm) (n9 := sm) (ob2 (c := c9) (d := 26) hc9 rfl) (ob2 (c := s9) (d := 156) hs9 rfl) ?_
                      exact hK323 _ _ _ _ _ _ h hdk
                    · refine v_iload cx dL_sound_272 6 rfl ?_
                      have hj287 : ∀ (w : va_W), p_L_sound_j287 z x3 K10_323 x2 y_11 x4_7 y_10 (p_L_sound_10 x1 z K10_160 K10_323 K10_331 n) → DK cy q_p0 z w → vV p l e rm_L_sound s m args below meth c Q9 9 D A (c9 + 27) (s9 + 162) w 287 [(0, .ref q_p0), (1, .int x1), (2, .int (x2 + y_11)), (3, .int x3), (4, .int x4_7), (5, .int y_10), (6, .int (q_variant z x3 (4 : Int32) : Int32))] [] := by
                        intro w h hdk
                        unfold p_L_sound_j287 at h
                        refine v_aload_n cx dL_sound_287 rfl 0 rfl ?_
                        refine v_aload_n cx dL_sound_288 rfl 0 rfl ?_
                        refine v_iload_n cx dL_sound_289 rfl 3 rfl ?_
                        refine v_iconst (v := 5) cx dL_sound_290 (by decide) ?_
                        refine a_variant cx hl (by decide) ⟨(ob1 (c := c9) (d := 28) hc9 hcm rfl), (ob1 (c := s9) (d := 168) hs9 hsm rfl)⟩ (Nat.le_of_ble_eq_true rfl) dL_sound_291 hdk (fun w hdk => ?_)
                        refine a_listed cx hl (by decide) ⟨(ob1 (c := c9) (d := 29) hc9 hcm rfl), (ob1 (c := s9) (d := 174) hs9 hsm rfl)⟩ (Nat.le_of_ble_eq_true rfl) dL_sound_294 hdk (fun w hdk => ?_)
                        refine v_iload_n cx dL_sound_297 rfl 3 rfl ?_
                        refine v_icmp_ne (tgt := 323) cx dL_sound_298 (by decide) h (fun h => ?_) (fun h => ?_)
                        · refine v_lv (lv' := [(0, .ref q_p0), (1, .int x1), (2, .int (x2 + y_11)), (3, .int x3), (4, .int x4_7), (5, .int y_10), (6, .int (q_variant z x3 (4 : Int32) : Int32))]) [0, 1, 2, 3, 4, 5, 6] rfl ?_
                          refine v_widen (k9 := cm) (n9 := sm) (ob2 (c := c9) (d := 29) hc9 rfl) (ob2 (c := s9) (d := 174) hs9 rfl) ?_
                          exact hK323 _ _ _ _ _ _ h hdk
                        · refine v_aload_n cx dL_sound_301 rfl 0 rfl ?_
                          refine v_iload_n cx dL_sound_302 rfl 3 rfl ?_
                          refine v_bipush (v := 6) cx dL_sound_303 (by decide) ?_
                          refine a_variant cx hl (by decide) ⟨(ob1 (c := c9) (d := 30) hc9 hcm rfl), (ob1 (c := s9) (d := 180) hs9 hsm rfl)⟩ (Nat.le_of_ble_eq_true rfl) dL_sound_305 hdk (fun w hdk => ?_)
                          refine v_iconst (v := 1) cx dL_sound_308 (by decide) ?_
                          refine v_icmp_lt (tgt := 323) cx dL_sound_309 (by decide) h (fun h => ?_) (fun h => ?_)
                          · refine v_lv (lv' := [(0, .ref q_p0), (1, .int x1), (2, .int (x2 + y_11)), (3, .int x3), (4, .int x4_7), (5, .int y_10), (6, .int (q_variant z x3 (4 : Int32) : Int32))]) [0, 1, 2, 3, 4, 5, 6] rfl ?_
                            refine v_widen (k9 := cm) (n9 := sm) (ob2 (c := c9) (d := 30) hc9 rfl) (ob2 (c := s9) (d := 180) hs9 rfl) ?_
                            exact hK323 _ _ _ _ _ _ h hdk
                          · refine v_aload_n cx dL_sound_312 rfl 0 rfl ?_
                            refine v_iload_n cx dL_sound_313 rfl 3 rfl ?_
                            refine v_bipush (v := 6) cx dL_sound_314 (by decide) ?_
                            refine a_variant cx hl (by decide) ⟨(ob1 (c := c9) (d := 31) hc9 hcm rfl), (ob1 (c := s9) (d := 186) hs9 hsm rfl)⟩ (Nat.le_of_ble_eq_true rfl) dL_sound_316 hdk (fun w hdk => ?_)
                            refine v_iconst (v := 3) cx dL_sound_319 (by decide) ?_
                            refine v_icmp_le (tgt := 325) cx dL_sound_320 (by decide) h (fun h => ?_) (fun h => ?_)
                            · refine v_iinc (v := x3 + 1) (k0 := 3) (lv' := [(3, .int (x3 + 1)), (0, .ref q_p0), (1, .int x1), (2, .int (x2 + y_11)), (4, .int x4_7), (5, .int y_10), (6, .int (q_variant z x3 (4 : Int32) : Int32))]) cx dL_sound_325 rfl rfl (by decide) rfl ?_
                              refine v_goto (tgt := 10) cx dL_sound_328 (by decide) ?_
                              refine v_lv (lv' := [(0, .ref q_p0), (1, .int x1), (2, .int (x2 + y_11)), (3, .int (x3 + 1))]) [1, 2, 3, 0] rfl ?_
                              refine v_widen (k9 := (c9 + 31)) (n9 := (s9 + 186)) (ob3 (c := c9) (d := 31) (e := 31) rfl) (ob3 (c := s9) (d := 186) (e := 186) rfl) ?_
                              exact ih _ _ (ob4 hc9) (ob4 hs9) _ _ _ h hdk
                            · refine v_lv (lv' := [(0, .ref q_p0), (1, .int x1), (2, .int (x2 + y_11)), (3, .int x3), (4, .int x4_7), (5, .int y_10), (6, .int (q_variant z x3 (4 : Int32) : Int32))]) [0, 1, 2, 3, 4, 5, 6] rfl ?_
                              refine v_widen (k9 := cm) (n9 := sm) (ob2 (c := c9) (d := 31) hc9 rfl) (ob2 (c := s9) (d := 186) hs9 rfl) ?_
                              exact hK323 _ _ _ _ _ _ h hdk
                      refine v_if_lt (tgt := 287) cx dL_sound_274 (by decide) h (fun h => ?_) (fun h => ?_)
                      · refine v_lv (lv' := [(0, .ref q_p0), (1, .int x1), (2, .int (x2 + y_11)), (3, .int x3), (4, .int x4_7), (5, .int y_10), (6, .int (q_variant z x3 (4 : Int32) : Int32))]) [0, 1, 2, 3, 4, 5, 6] rfl ?_
                        refine v_widen (k9 := (c9 + 27)) (n9 := (s9 + 162)) (ob3 (c := c9) (d := 26) (e := 27) rfl) (ob3 (c := s9) (d := 156) (e := 162) rfl) ?_
                        exact hj287 _ h hdk
                      · refine v_aload_n cx dL_sound_277 rfl 0 rfl ?_
                        refine v_iload cx dL_sound_278 6 rfl ?_
                        refine a_ranked cx hl (by decide) ⟨(ob1 (c := c9) (d := 27) hc9 hcm rfl), (ob1 (c := s9) (d := 162) hs9 hsm rfl)⟩ (Nat.le_of_ble_eq_true rfl) dL_sound_280 hdk (fun w hdk => ?_)
                        refine v_iload_n cx dL_sound_283 rfl 3 rfl ?_
                        refine v_icmp_ne (tgt := 323) cx dL_sound_284 (by decide) h (fun h => ?_) (fun h => ?_)
                        · refine v_lv (lv' := [(0, .ref q_p0), (1, .int x1), (2, .int (x2 + y_11)), (3, .int x3), (4, .int x4_7), (5, .int y_10), (6, .int (q_variant z x3 (4 : Int32) : Int32))]) [0, 1, 2, 3, 4, 5, 6] rfl ?_
                          refine v_widen (k9 := cm) (n9 := sm) (ob2 (c := c9) (d := 27) hc9 rfl) (ob2 (c := s9) (d := 162) hs9 rfl) ?_
                          exact hK323 _ _ _ _ _ _ h hdk
                        · refine v_lv (lv' := [(0, .ref q_p0), (1, .int x1), (2, .int (x2 + y_11)), (3, .int x3), (4, .int x4_7), (5, .int y_10), (6, .int (q_variant z x3 (4 : Int32) : Int32))]) [0, 1, 2, 3, 4, 5, 6] rfl ?_
                          refine v_widen (k9 := (c9 + 27)) (n9 := (s9 + 162)) (ob3 (c := c9) (d := 27) (e := 27) rfl) (ob3 (c := s9) (d := 162) (e := 162) rfl) ?_
                          exact hj287 _ h hdk
                  refine v_if_ne (tgt := 268) cx dL_sound_261 (by decide) h (fun h => ?_) (fun h => ?_)
                  · refine v_iconst (v := 0) cx dL_sound_268 (by decide) ?_
                    refine v_lv (lv' := [(0, .ref q_p0), (1, .int x1), (2, .int (x2 + y_11)), (3, .int x3), (4, .int x4_7), (5, .int y_10), (6, .int (q_variant z x3 (4 : Int32) : Int32))]) [0, 1, 2, 3, 4, 5, 6] rfl ?_
                    refine v_widen (k9 := (c9 + 26)) (n9 := (s9 + 156)) (ob3 (c := c9) (d := 26) (e := 26) rfl) (ob3 (c := s9) (d := 156) (e := 156) rfl) ?_
                    exact hj269 0 _ h hdk
                  · refine v_iconst (v := 1) cx dL_sound_264 (by decide) ?_
                    refine v_goto (tgt := 269) cx dL_sound_265 (by decide) ?_
                    refine v_lv (lv' := [(0, .ref q_p0), (1, .int x1), (2, .int (x2 + y_11)), (3, .int x3), (4, .int x4_7), (5, .int y_10), (6, .int (q_variant z x3 (4 : Int32) : Int32))]) [0, 1, 2, 3, 4, 5, 6] rfl ?_
                    refine v_widen (k9 := (c9 + 26)) (n9 := (s9 + 156)) (ob3 (c := c9) (d := 26) (e := 26) rfl) (ob3 (c := s9) (d := 156) (e := 156) rfl) ?_
                    exact hj269 1 _ h hdk
                refine v_icmp_ne (tgt := 258) cx dL_sound_251 (by decide) h (fun h => ?_) (fun h => ?_)
                · refine v_iconst (v := 0) cx dL_sound_258 (by decide) ?_
                  refine v_lv (lv' := [(0, .ref q_p0), (1, .int x1), (2, .int (x2 + y_11)), (3, .int x3), (4, .int x4_7), (5, .int y_10), (6, .int (q_variant z x3 (4 : Int32) : Int32))]) [1, 2, 0, 3, 4, 5, 6] rfl ?_
                  refine v_widen (k9 := (c9 + 26)) (n9 := (s9 + 156)) (ob3 (c := c9) (d := 26) (e := 26) rfl) (ob3 (c := s9) (d := 156) (e := 156) rfl) ?_
                  exact hj259 0 _ h hdk
                · refine v_iconst (v := 1) cx dL_sound_254 (by decide) ?_
                  refine v_goto (tgt := 259) cx dL_sound_255 (by decide) ?_
                  refine v_lv (lv' := [(0, .ref q_p0), (1, .int x1), (2, .int (x2 + y_11)), (3, .int x3), (4, .int x4_7), (5, .int y_10), (6, .int (q_variant z x3 (4 : Int32) : Int32))]) [1, 2, 0, 3, 4, 5, 6] rfl ?_
                  refine v_widen (k9 := (c9 + 26)) (n9 := (s9 + 156)) (ob3 (c := c9) (d := 26) (e := 26) rfl) (ob3 (c := s9) (d := 156) (e := 156) rfl) ?_
                  exact hj259 1 _ h hdk
          refine v_if_le (tgt := 223) cx dL_sound_216 (by decide) h (fun h => ?_) (fun h => ?_)
          · refine v_iconst (v := 0) cx dL_sound_223 (by decide) ?_
            refine v_lv (lv' := [(0, .ref q_p0), (1, .int x1), (2, .int x2), (3, .int x3), (4, .int x4_7), (5, .int y_10), (6, .int (q_variant z x3 (4 : Int32) : Int32))]) [2, 3, 4, 5, 6, 1, 0] rfl ?_
            refine v_widen (k9 := (c9 + 24)) (n9 := (s9 + 144)) (ob3 (c := c9) (d := 24) (e := 24) rfl) (ob3 (c := s9) (d := 144) (e := 144) rfl) ?_
            exact hj224 0 _ h hdk
          · refine v_iconst (v := 1) cx dL_sound_219 (by decide) ?_
            refine v_goto (tgt := 224) cx dL_sound_220 (by decide) ?_
            refine v_lv (lv' := [(0, .ref q_p0), (1, .int x1), (2, .int x2), (3, .int x3), (4, .int x4_7), (5, .int y_10), (6, .int (q_variant z x3 (4 : Int32) : Int32))]) [2, 3, 4, 5, 6, 1, 0] rfl ?_
            refine v_widen (k9 := (c9 + 24)) (n9 := (s9 + 144)) (ob3 (c := c9) (d := 24) (e := 24) rfl) (ob3 (c := s9) (d := 144) (e := 144) rfl) ?_
            exact hj224 1 _ h hdk
        refine v_if_le (tgt := 177) cx dL_sound_170 (by decide) h (fun h => ?_) (fun h => ?_)
        · refine v_iload cx dL_sound_177 5 rfl ?_
          refine v_if_le (tgt := 187) cx dL_sound_179 (by decide) h (fun h => ?_) (fun h => ?_)
          · refine v_aload_n cx dL_sound_187 rfl 0 rfl ?_
            refine v_iload_n cx dL_sound_188 rfl 3 rfl ?_
            refine v_iconst (v := 1) cx dL_sound_189 (by decide) ?_
            refine a_variant cx hl (by decide) ⟨(ob1 (c := c9) (d := 23) hc9 hcm rfl), (ob1 (c := s9) (d := 138) hs9 hsm rfl)⟩ (Nat.le_of_ble_eq_true rfl) dL_sound_190 hdk (fun w hdk => ?_)
            refine v_if_ne (tgt := 201) cx dL_sound_193 (by decide) h (fun h => ?_) (fun h => ?_)
            · refine v_bipush (v := 8) cx dL_sound_201 (by decide) ?_
              refine v_lv (lv' := [(0, .ref q_p0), (1, .int x1), (2, .int x2), (3, .int x3), (4, .int x4_7), (5, .int x5_8), (6, .int x6_9)]) [0, 1, 2, 3, 4, 5, 6] rfl ?_
              refine v_widen (k9 := (c9 + 23)) (n9 := (s9 + 138)) (ob3 (c := c9) (d := 23) (e := 23) rfl) (ob3 (c := s9) (d := 138) (e := 138) rfl) ?_
              exact hj203 8 _ h hdk
            · refine v_bipush (v := 7) cx dL_sound_196 (by decide) ?_
              refine v_goto (tgt := 203) cx dL_sound_198 (by decide) ?_
              refine v_lv (lv' := [(0, .ref q_p0), (1, .int x1), (2, .int x2), (3, .int x3), (4, .int x4_7), (5, .int x5_8), (6, .int x6_9)]) [0, 1, 2, 3, 4, 5, 6] rfl ?_
              refine v_widen (k9 := (c9 + 23)) (n9 := (s9 + 138)) (ob3 (c := c9) (d := 23) (e := 23) rfl) (ob3 (c := s9) (d := 138) (e := 138) rfl) ?_
              exact hj203 7 _ h hdk
          · refine v_iload cx dL_sound_182 5 rfl ?_
            refine v_goto (tgt := 203) cx dL_sound_184 (by decide) ?_
            refine v_lv (lv' := [(0, .ref q_p0), (1, .int x1), (2, .int x2), (3, .int x3), (4, .int x4_7), (5, .int x5_8), (6, .int x6_9)]) [0, 1, 2, 3, 4, 5, 6] rfl ?_
            refine v_widen (k9 := (c9 + 23)) (n9 := (s9 + 138)) (ob3 (c := c9) (d := 22) (e := 23) rfl) (ob3 (c := s9) (d := 132) (e := 138) rfl) ?_
            exact hj203 x5_8 _ h hdk
        · refine v_iconst (v := 0) cx dL_sound_173 (by decide) ?_
          refine v_goto (tgt := 203) cx dL_sound_174 (by decide) ?_
          refine v_lv (lv' := [(0, .ref q_p0), (1, .int x1), (2, .int x2), (3, .int x3), (4, .int x4_7), (5, .int x5_8), (6, .int x6_9)]) [0, 1, 2, 3, 4, 5, 6] rfl ?_
          refine v_widen (k9 := (c9 + 23)) (n9 := (s9 + 138)) (ob3 (c := c9) (d := 22) (e := 23) rfl) (ob3 (c := s9) (d := 132) (e := 138) rfl) ?_
          exact hj203 0 _ h hdk
set_option maxHeartbeats 40000000 in
set_option maxRecDepth 100000 in
theorem w_L_sound_333 {p : Program} {l : Launch} {e : Env} {s : State} {m : MethodId} {args : Array Value} {below : List Frame} {meth : Method} {c : Code} {Q9 : State → Prop} {mn : String} {Ts : List Cond} {D : va_G} {cy : Nat → ClassId} {g : gT} {A : Nat → Prop} (cx : vC p s m args meth c cL_sound 9 (some .boolean) RL mn Ts D cy g A) (hl : l.stackTraces = false) {q_p0 : Nat} {x1 : Int32} {x2 : Int32} {z : DS} {K333_548 : Int32 → Int32 → Int32 → Int32 → Int32 → Int32 → Prop} {K333_556 : Int32 → Prop} {cm sm : Nat} (hcm : cm ≤ 724) (hsm : sm ≤ 4344) (hK548 : ∀ (x3 : Int32) (x4 : Int32) (x5 : Int32) (x6 : Int32) (x7 : Int32) (x8 : Int32) (w : va_W), K333_548 x3 x4 x5 x6 x7 x8 → DK cy q_p0 z w → vV p l e rm_L_sound s m args below meth c Q9 9 D A cm sm w 548 [(0, .ref q_p0), (1, .int x1), (2, .int x2), (3, .int x3), (4, .int x4), (5, .int x5), (6, .int x6), (7, .int x7), (8, .int x8)] []) (hK556 : ∀ (x3 : Int32) (w : va_W), K333_556 x3 → DK cy q_p0 z w → vV p l e rm_L_sound s m args below meth c Q9 9 D A cm sm w 556 [(0, .ref q_p0), (1, .int x1), (2, .int x2), (3, .int x3)] []) : ∀ (n c9 s9 : Nat), c9 + n * 11 ≤ cm → s9 + n * 66 ≤ sm → ∀ (x3 : Int32) (w : va_W), p_L_sound_333 x2 z K333_548 K333_556 n x3 → DK cy q_p0 z w → vV p l e rm_L_sound s m args below meth c Q9 9 D A c9 s9 w 333 [(0, .ref q_p0), (1, .int x1), (2, .int x2), (3, .int x3)] [] := by
  intro n
  induction n with
  | zero => intro c9 s9 hc9 hs9 x3 w h; exact False.elim h
  | succ n ih =>
    intro c9 s9 hc9 hs9 x3 w h hdk
    unfold p_L_sound_333 at h
    refine v_iload_n cx dL_sound_333 rfl 3 rfl ?_
    refine v_iload_n cx dL_sound_334 rfl 2 rfl ?_
    refine v_icmp_ge (tgt := 556) cx dL_sound_335 (by decide) h (fun h => ?_) (fun h => ?_)
    · refine v_lv (lv' := [(0, .ref q_p0), (1, .int x1), (2, .int x2), (3, .int x3)]) [0, 1, 2, 3] rfl ?_
      refine v_widen (k9 := cm) (n9 := sm) (ob2 (c := c9) (d := 0) hc9 rfl) (ob2 (c := s9) (d := 0) hs9 rfl) ?_
      exact hK556 _ _ h hdk
    · refine v_aload_n cx dL_sound_338 rfl 0 rfl ?_
      refine v_iload_n cx dL_sound_339 rfl 3 rfl ?_
      refine v_iconst (v := 1) cx dL_sound_340 (by decide) ?_
      refine v_isub cx dL_sound_341 ?_
      refine a_ranked cx hl (by decide) ⟨(ob1 (c := c9) (d := 1) hc9 hcm rfl), (ob1 (c := s9) (d := 6) hs9 hsm rfl)⟩ (Nat.le_of_ble_eq_true rfl) dL_sound_342 hdk (fun w hdk => ?_)
      refine v_istore (lv' := [(4, .int (q_ranked z (x3 - (1 : Int32)) : Int32)), (0, .ref q_p0), (1, .int x1), (2, .int x2), (3, .int x3)]) cx dL_sound_345 (by decide) rfl ?_
      refine v_aload_n cx dL_sound_347 rfl 1 rfl ?_
      refine v_iload_n cx dL_sound_348 rfl 4 rfl ?_
      refine a_ranked cx hl (by decide) ⟨(ob1 (c := c9) (d := 2) hc9 hcm rfl), (ob1 (c := s9) (d := 12) hs9 hsm rfl)⟩ (Nat.le_of_ble_eq_true rfl) dL_sound_349 hdk (fun w hdk => ?_)
      refine v_istore (lv' := [(5, .int (q_ranked z x3 : Int32)), (4, .int (q_ranked z (x3 - (1 : Int32)) : Int32)), (0, .ref q_p0), (1, .int x1), (2, .int x2), (3, .int x3)]) cx dL_sound_352 (by decide) rfl ?_
      refine v_aload_n cx dL_sound_354 rfl 2 rfl ?_
      refine v_iload cx dL_sound_355 1 rfl ?_
      refine v_iconst (v := 2) cx dL_sound_357 (by decide) ?_
      refine a_variant cx hl (by decide) ⟨(ob1 (c := c9) (d := 3) hc9 hcm rfl), (ob1 (c := s9) (d := 18) hs9 hsm rfl)⟩ (Nat.le_of_ble_eq_true rfl) dL_sound_358 hdk (fun w hdk => ?_)
      refine v_aload_n cx dL_sound_361 rfl 2 rfl ?_
      refine v_iload cx dL_sound_362 0 rfl ?_
      refine v_iconst (v := 2) cx dL_sound_364 (by decide) ?_
      refine a_variant cx hl (by decide) ⟨(ob1 (c := c9) (d := 4) hc9 hcm rfl), (ob1 (c := s9) (d := 24) hs9 hsm rfl)⟩ (Nat.le_of_ble_eq_true rfl) dL_sound_365 hdk (fun w hdk => ?_)
      have hj376 : ∀ (y_28 : Int32) (w : va_W), p_L_sound_j376 z x3 K333_548 (p_L_sound_333 x2 z K333_548 K333_556 n) y_28 → DK cy q_p0 z w → vV p l e rm_L_sound s m args below meth c Q9 9 D A (c9 + 4) (s9 + 24) w 376 [(0, .ref q_p0), (1, .int x1), (2, .int x2), (3, .int x3), (4, .int (q_ranked z (x3 - (1 : Int32)) : Int32)), (5, .int (q_ranked z x3 : Int32))] [.int y_28] := by
        intro y_28 w h hdk
        unfold p_L_sound_j376 at h
        refine v_istore (lv' := [(6, .int y_28), (0, .ref q_p0), (1, .int x1), (2, .int x2), (3, .int x3), (4, .int (q_ranked z (x3 - (1 : Int32)) : Int32)), (5, .int (q_ranked z x3 : Int32))]) cx dL_sound_376 (by decide) rfl ?_
        refine v_aload_n cx dL_sound_378 rfl 1 rfl ?_
        refine v_bipush (v := 7) cx dL_sound_379 (by decide) ?_
        refine a_whole cx hl (by decide) ⟨(ob1 (c := c9) (d := 5) hc9 hcm rfl), (ob1 (c := s9) (d := 30) hs9 hsm rfl)⟩ (Nat.le_of_ble_eq_true rfl) dL_sound_381 hdk (fun w hdk => ?_)
        refine v_istore (lv' := [(7, .int (q_whole z (7 : Int32) : Int32)), (6, .int y_28), (0, .ref q_p0), (1, .int x1), (2, .int x2), (3, .int x3), (4, .int (q_ranked z (x3 - (1 : Int32)) : Int32)), (5, .int (q_ranked z x3 : Int32))]) cx dL_sound_384 (by decide) rfl ?_
        refine v_iload cx dL_sound_386 0 rfl ?_
        refine v_iconst (v := 1) cx dL_sound_388 (by decide) ?_
        have hj484 : ∀ (y_31 : Int32) (w : va_W), p_L_sound_j484 z x3 K333_548 y_28 (p_L_sound_333 x2 z K333_548 K333_556 n) y_31 → DK cy q_p0 z w → vV p l e rm_L_sound s m args below meth c Q9 9 D A (c9 + 7) (s9 + 42) w 484 [(0, .ref q_p0), (1, .int x1), (2, .int x2), (3, .int x3), (4, .int (q_ranked z (x3 - (1 : Int32)) : Int32)), (5, .int (q_ranked z x3 : Int32)), (6, .int y_28), (7, .int (q_whole z (7 : Int32) : Int32))] [.int y_31] := by
          intro y_31 w h hdk
          unfold p_L_sound_j484 at h
          refine v_istore (lv' := [(8, .int y_31), (0, .ref q_p0), (1, .int x1), (2, .int x2), (3, .int x3), (4, .int (q_ranked z (x3 - (1 : Int32)) : Int32)), (5, .int (q_ranked z x3 : Int32)), (6, .int y_28), (7, .int (q_whole z (7 : Int32) : Int32))]) cx dL_sound_484 (by decide) rfl ?_
          refine v_aload_n cx dL_sound_486 rfl 1 rfl ?_
          refine v_iload cx dL_sound_487 5 rfl ?_
          refine v_iconst (v := 2) cx dL_sound_489 (by decide) ?_
          refine a_variant cx hl (by decide) ⟨(ob1 (c := c9) (d := 8) hc9 hcm rfl), (ob1 (c := s9) (d := 48) hs9 hsm rfl)⟩ (Nat.le_of_ble_eq_true rfl) dL_sound_490 hdk (fun w hdk => ?_)
          refine v_aload_n cx dL_sound_493 rfl 1 rfl ?_
          refine v_iload cx dL_sound_494 6 rfl ?_
          refine v_iconst (v := 2) cx dL_sound_496 (by decide) ?_
          refine a_variant cx hl (by decide) ⟨(ob1 (c := c9) (d := 9) hc9 hcm rfl), (ob1 (c := s9) (d := 54) hs9 hsm rfl)⟩ (Nat.le_of_ble_eq_true rfl) dL_sound_497 hdk (fun w hdk => ?_)
          refine v_icmp_lt (tgt := 548) cx dL_sound_500 (by decide) h (fun h => ?_) (fun h => ?_)
          · refine v_lv (lv' := [(0, .ref q_p0), (1, .int x1), (2, .int x2), (3, .int x3), (4, .int (q_ranked z (x3 - (1 : Int32)) : Int32)), (5, .int (q_ranked z x3 : Int32)), (6, .int y_28), (7, .int (q_whole z (7 : Int32) : Int32)), (8, .int y_31)]) [1, 2, 3, 4, 5, 6, 7, 8, 0] rfl ?_
            refine v_widen (k9 := cm) (n9 := sm) (ob2 (c := c9) (d := 9) hc9 rfl) (ob2 (c := s9) (d := 54) hs9 rfl) ?_
            exact hK548 _ _ _ _ _ _ _ h hdk
          · refine v_iload cx dL_sound_503 7 rfl ?_
            have hj513 : ∀ (w : va_W), p_L_sound_j513 y_28 (p_L_sound_333 x2 z K333_548 K333_556 n) x3 y_31 z K333_548 → DK cy q_p0 z w → vV p l e rm_L_sound s m args below meth c Q9 9 D A (c9 + 9) (s9 + 54) w 513 [(0, .ref q_p0), (1, .int x1), (2, .int x2), (3, .int x3), (4, .int (q_ranked z (x3 - (1 : Int32)) : Int32)), (5, .int (q_ranked z x3 : Int32)), (6, .int y_28), (7, .int (q_whole z (7 : Int32) : Int32)), (8, .int y_31)] [] := by
              intro w h hdk
              unfold p_L_sound_j513 at h
              refine v_iload cx dL_sound_513 6 rfl ?_
              refine v_if_eq (tgt := 550) cx dL_sound_515 (by decide) h (fun h => ?_) (fun h => ?_)
              · refine v_iinc (v := x3 + 1) (k0 := 3) (lv' := [(3, .int (x3 + 1)), (0, .ref q_p0), (1, .int x1), (2, .int x2), (4, .int (q_ranked z (x3 - (1 : Int32)) : Int32)), (5, .int (q_ranked z x3 : Int32)), (6, .int y_28), (7, .int (q_whole z (7 : Int32) : Int32)), (8, .int y_31)]) cx dL_sound_550 rfl rfl (by decide) rfl ?_
                refine v_goto (tgt := 333) cx dL_sound_553 (by decide) ?_
                refine v_lv (lv' := [(0, .ref q_p0), (1, .int x1), (2, .int x2), (3, .int (x3 + 1))]) [1, 2, 3, 0] rfl ?_
                refine v_widen (k9 := (c9 + 11)) (n9 := (s9 + 66)) (ob3 (c := c9) (d := 9) (e := 11) rfl) (ob3 (c := s9) (d := 54) (e := 66) rfl) ?_
                exact ih _ _ (ob4 hc9) (ob4 hs9) _ _ h hdk
              · refine v_iload cx dL_sound_518 8 rfl ?_
                refine v_if_ne (tgt := 550) cx dL_sound_520 (by decide) h (fun h => ?_) (fun h => ?_)
                · refine v_iinc (v := x3 + 1) (k0 := 3) (lv' := [(3, .int (x3 + 1)), (0, .ref q_p0), (1, .int x1), (2, .int x2), (4, .int (q_ranked z (x3 - (1 : Int32)) : Int32)), (5, .int (q_ranked z x3 : Int32)), (6, .int y_28), (7, .int (q_whole z (7 : Int32) : Int32)), (8, .int y_31)]) cx dL_sound_550 rfl rfl (by decide) rfl ?_
                  refine v_goto (tgt := 333) cx dL_sound_553 (by decide) ?_
                  refine v_lv (lv' := [(0, .ref q_p0), (1, .int x1), (2, .int x2), (3, .int (x3 + 1))]) [1, 2, 3, 0] rfl ?_
                  refine v_widen (k9 := (c9 + 11)) (n9 := (s9 + 66)) (ob3 (c := c9) (d := 9) (e := 11) rfl) (ob3 (c := s9) (d := 54) (e := 66) rfl) ?_
                  exact ih _ _ (ob4 hc9) (ob4 hs9) _ _ h hdk
                · refine v_aload_n cx dL_sound_523 rfl 0 rfl ?_
                  refine v_bipush (v := 8) cx dL_sound_524 (by decide) ?_
                  refine a_whole cx hl (by decide) ⟨(ob1 (c := c9) (d := 10) hc9 hcm rfl), (ob1 (c := s9) (d := 60) hs9 hsm rfl)⟩ (Nat.le_of_ble_eq_true rfl) dL_sound_526 hdk (fun w hdk => ?_)
                  refine v_if_ne (tgt := 550) cx dL_sound_529 (by decide) h (fun h => ?_) (fun h => ?_)
                  · refine v_iinc (v := x3 + 1) (k0 := 3) (lv' := [(3, .int (x3 + 1)), (0, .ref q_p0), (1, .int x1), (2, .int x2), (4, .int (q_ranked z (x3 - (1 : Int32)) : Int32)), (5, .int (q_ranked z x3 : Int32)), (6, .int y_28), (7, .int (q_whole z (7 : Int32) : Int32)), (8, .int y_31)]) cx dL_sound_550 rfl rfl (by decide) rfl ?_
                    refine v_goto (tgt := 333) cx dL_sound_553 (by decide) ?_
                    refine v_lv (lv' := [(0, .ref q_p0), (1, .int x1), (2, .int x2), (3, .int (x3 + 1))]) [1, 2, 3, 0] rfl ?_
                    refine v_widen (k9 := (c9 + 11)) (n9 := (s9 + 66)) (ob3 (c := c9) (d := 10) (e := 11) rfl) (ob3 (c := s9) (d := 60) (e := 66) rfl) ?_
                    exact ih _ _ (ob4 hc9) (ob4 hs9) _ _ h hdk
                  · refine v_aload_n cx dL_sound_532 rfl 0 rfl ?_
                    refine v_bipush (v := 9) cx dL_sound_533 (by decide) ?_
                    refine a_whole cx hl (by decide) ⟨(ob1 (c := c9) (d := 11) hc9 hcm rfl), (ob1 (c := s9) (d := 66) hs9 hsm rfl)⟩ (Nat.le_of_ble_eq_true rfl) dL_sound_535 hdk (fun w hdk => ?_)
                    refine v_if_ne (tgt := 550) cx dL_sound_538 (by decide) h (fun h => ?_) (fun h => ?_)
                    · refine v_iinc (v := x3 + 1) (k0 := 3) (lv' := [(3, .int (x3 + 1)), (0, .ref q_p0), (1, .int x1), (2, .int x2), (4, .int (q_ranked z (x3 - (1 : Int32)) : Int32)), (5, .int (q_ranked z x3 : Int32)), (6, .int y_28), (7, .int (q_whole z (7 : Int32) : Int32)), (8, .int y_31)]) cx dL_sound_550 rfl rfl (by decide) rfl ?_
                      refine v_goto (tgt := 333) cx dL_sound_553 (by decide) ?_
                      refine v_lv (lv' := [(0, .ref q_p0), (1, .int x1), (2, .int x2), (3, .int (x3 + 1))]) [1, 2, 3, 0] rfl ?_
                      refine v_widen (k9 := (c9 + 11)) (n9 := (s9 + 66)) (ob3 (c := c9) (d := 11) (e := 11) rfl) (ob3 (c := s9) (d := 66) (e := 66) rfl) ?_
                      exact ih _ _ (ob4 hc9) (ob4 hs9) _ _ h hdk
                    · refine v_iload cx dL_sound_541 4 rfl ?_
                      refine v_iload cx dL_sound_543 5 rfl ?_
                      refine v_icmp_le (tgt := 550) cx dL_sound_545 (by decide) h (fun h => ?_) (fun h => ?_)
                      · refine v_iinc (v := x3 + 1) (k0 := 3) (lv' := [(3, .int (x3 + 1)), (0, .ref q_p0), (1, .int x1), (2, .int x2), (4, .int (q_ranked z (x3 - (1 : Int32)) : Int32)), (5, .int (q_ranked z x3 : Int32)), (6, .int y_28), (7, .int (q_whole z (7 : Int32) : Int32)), (8, .int y_31)]) cx dL_sound_550 rfl rfl (by decide) rfl ?_
                        refine v_goto (tgt := 333) cx dL_sound_553 (by decide) ?_
                        refine v_lv (lv' := [(0, .ref q_p0), (1, .int x1), (2, .int x2), (3, .int (x3 + 1))]) [1, 2, 3, 0] rfl ?_
                        refine v_widen (k9 := (c9 + 11)) (n9 := (s9 + 66)) (ob3 (c := c9) (d := 11) (e := 11) rfl) (ob3 (c := s9) (d := 66) (e := 66) rfl) ?_
                        exact ih _ _ (ob4 hc9) (ob4 hs9) _ _ h hdk
                      · refine v_lv (lv' := [(0, .ref q_p0), (1, .int x1), (2, .int x2), (3, .int x3), (4, .int (q_ranked z (x3 - (1 : Int32)) : Int32)), (5, .int (q_ranked z x3 : Int32)), (6, .int y_28), (7, .int (q_whole z (7 : Int32) : Int32)), (8, .int y_31)]) [0, 1, 2, 3, 4, 5, 6, 7, 8] rfl ?_
                        refine v_widen (k9 := cm) (n9 := sm) (ob2 (c := c9) (d := 11) hc9 rfl) (ob2 (c := s9) (d := 66) hs9 rfl) ?_
                        exact hK548 _ _ _ _ _ _ _ h hdk
            refine v_if_eq (tgt := 513) cx dL_sound_505 (by decide) h (fun h => ?_) (fun h => ?_)
            · refine v_lv (lv' := [(0, .ref q_p0), (1, .int x1), (2, .int x2), (3, .int x3), (4, .int (q_ranked z (x3 - (1 : Int32)) : Int32)), (5, .int (q_ranked z x3 : Int32)), (6, .int y_28), (7, .int (q_whole z (7 : Int32) : Int32)), (8, .int y_31)]) [1, 2, 3, 4, 5, 6, 7, 8, 0] rfl ?_
              refine v_widen (k9 := (c9 + 9)) (n9 := (s9 + 54)) (ob3 (c := c9) (d := 9) (e := 9) rfl) (ob3 (c := s9) (d := 54) (e := 54) rfl) ?_
              exact hj513 _ h hdk
            · refine v_iload cx dL_sound_508 0 rfl ?_
              refine v_if_gt (tgt := 548) cx dL_sound_510 (by decide) h (fun h => ?_) (fun h => ?_)
              · refine v_lv (lv' := [(0, .ref q_p0), (1, .int x1), (2, .int x2), (3, .int x3), (4, .int (q_ranked z (x3 - (1 : Int32)) : Int32)), (5, .int (q_ranked z x3 : Int32)), (6, .int y_28), (7, .int (q_whole z (7 : Int32) : Int32)), (8, .int y_31)]) [1, 2, 3, 4, 5, 6, 7, 8, 0] rfl ?_
                refine v_widen (k9 := cm) (n9 := sm) (ob2 (c := c9) (d := 9) hc9 rfl) (ob2 (c := s9) (d := 54) hs9 rfl) ?_
                exact hK548 _ _ _ _ _ _ _ h hdk
              · refine v_lv (lv' := [(0, .ref q_p0), (1, .int x1), (2, .int x2), (3, .int x3), (4, .int (q_ranked z (x3 - (1 : Int32)) : Int32)), (5, .int (q_ranked z x3 : Int32)), (6, .int y_28), (7, .int (q_whole z (7 : Int32) : Int32)), (8, .int y_31)]) [1, 2, 3, 4, 5, 6, 7, 8, 0] rfl ?_
                refine v_widen (k9 := (c9 + 9)) (n9 := (s9 + 54)) (ob3 (c := c9) (d := 9) (e := 9) rfl) (ob3 (c := s9) (d := 54) (e := 54) rfl) ?_
                exact hj513 _ h hdk
        refine v_icmp_ne (tgt := 410) cx dL_sound_389 (by decide) h (fun h => ?_) (fun h => ?_)
        · refine v_iload cx dL_sound_410 0 rfl ?_
          refine v_iconst (v := 2) cx dL_sound_412 (by decide) ?_
          refine v_icmp_ne (tgt := 434) cx dL_sound_413 (by decide) h (fun h => ?_) (fun h => ?_)
          · refine v_iload cx dL_sound_434 0 rfl ?_
            refine v_iconst (v := 5) cx dL_sound_436 (by decide) ?_
            refine v_icmp_ne (tgt := 458) cx dL_sound_437 (by decide) h (fun h => ?_) (fun h => ?_)
            · refine v_iload cx dL_sound_458 0 rfl ?_
              refine v_if_ne (tgt := 467) cx dL_sound_460 (by decide) h (fun h => ?_) (fun h => ?_)
              · refine v_aload_n cx dL_sound_467 rfl 2 rfl ?_
                refine v_iload cx dL_sound_468 0 rfl ?_
                refine v_iload cx dL_sound_470 6 rfl ?_
                refine v_callSall2 (As := [.ref q_p0, .int (q_whole z (7 : Int32) : Int32), .int (q_ranked z (x3 - (1 : Int32)) : Int32)]) (mc := 1) (ms := 6) cx (c_L_place l hl g D cy hdk h) k_L_114 (by decide) ⟨rfl, rfl⟩ ⟨(ob1 (c := c9) (d := 6) hc9 hcm rfl), (ob1 (c := s9) (d := 36) hs9 hsm rfl)⟩ rfl rfl (Nat.le_of_ble_eq_true rfl) dL_sound_472 (fun v9 w hp => ?_)
                obtain ⟨r_29, rfl, hdk, h⟩ := hp
                refine v_st (st' := [.int r_29]) rfl ?_
                refine v_aload_n cx dL_sound_475 rfl 2 rfl ?_
                refine v_iload cx dL_sound_476 0 rfl ?_
                refine v_iload cx dL_sound_478 7 rfl ?_
                refine v_callSall2 (As := [.ref q_p0, .int (q_whole z (7 : Int32) : Int32), .int (q_ranked z x3 : Int32)]) (mc := 1) (ms := 6) cx (c_L_place l hl g D cy hdk h) k_L_114 (by decide) ⟨rfl, rfl⟩ ⟨(ob1 (c := c9) (d := 7) hc9 hcm rfl), (ob1 (c := s9) (d := 42) hs9 hsm rfl)⟩ rfl rfl (Nat.le_of_ble_eq_true rfl) dL_sound_480 (fun v9 w hp => ?_)
                obtain ⟨r_30, rfl, hdk, h⟩ := hp
                refine v_st (st' := [.int r_30, .int r_29]) rfl ?_
                refine v_isub cx dL_sound_483 ?_
                refine v_lv (lv' := [(0, .ref q_p0), (1, .int x1), (2, .int x2), (3, .int x3), (4, .int (q_ranked z (x3 - (1 : Int32)) : Int32)), (5, .int (q_ranked z x3 : Int32)), (6, .int y_28), (7, .int (q_whole z (7 : Int32) : Int32))]) [2, 3, 4, 5, 6, 7, 1, 0] rfl ?_
                refine v_widen (k9 := (c9 + 7)) (n9 := (s9 + 42)) (ob3 (c := c9) (d := 7) (e := 7) rfl) (ob3 (c := s9) (d := 42) (e := 42) rfl) ?_
                exact hj484 (r_29 - r_30) _ h hdk
              · refine v_iconst (v := 0) cx dL_sound_463 (by decide) ?_
                refine v_goto (tgt := 484) cx dL_sound_464 (by decide) ?_
                refine v_lv (lv' := [(0, .ref q_p0), (1, .int x1), (2, .int x2), (3, .int x3), (4, .int (q_ranked z (x3 - (1 : Int32)) : Int32)), (5, .int (q_ranked z x3 : Int32)), (6, .int y_28), (7, .int (q_whole z (7 : Int32) : Int32))]) [2, 3, 4, 5, 6, 7, 1, 0] rfl ?_
                refine v_widen (k9 := (c9 + 7)) (n9 := (s9 + 42)) (ob3 (c := c9) (d := 5) (e := 7) rfl) (ob3 (c := s9) (d := 30) (e := 42) rfl) ?_
                exact hj484 0 _ h hdk
            · refine v_aload_n cx dL_sound_440 rfl 2 rfl ?_
              refine v_iload cx dL_sound_441 7 rfl ?_
              refine v_iconst (v := 1) cx dL_sound_443 (by decide) ?_
              refine a_variant cx hl (by decide) ⟨(ob1 (c := c9) (d := 6) hc9 hcm rfl), (ob1 (c := s9) (d := 36) hs9 hsm rfl)⟩ (Nat.le_of_ble_eq_true rfl) dL_sound_444 hdk (fun w hdk => ?_)
              refine v_aload_n cx dL_sound_447 rfl 2 rfl ?_
              refine v_iload cx dL_sound_448 6 rfl ?_
              refine v_iconst (v := 1) cx dL_sound_450 (by decide) ?_
              refine a_variant cx hl (by decide) ⟨(ob1 (c := c9) (d := 7) hc9 hcm rfl), (ob1 (c := s9) (d := 42) hs9 hsm rfl)⟩ (Nat.le_of_ble_eq_true rfl) dL_sound_451 hdk (fun w hdk => ?_)
              refine v_isub cx dL_sound_454 ?_
              refine v_goto (tgt := 484) cx dL_sound_455 (by decide) ?_
              refine v_lv (lv' := [(0, .ref q_p0), (1, .int x1), (2, .int x2), (3, .int x3), (4, .int (q_ranked z (x3 - (1 : Int32)) : Int32)), (5, .int (q_ranked z x3 : Int32)), (6, .int y_28), (7, .int (q_whole z (7 : Int32) : Int32))]) [2, 3, 4, 5, 6, 7, 1, 0] rfl ?_
              refine v_widen (k9 := (c9 + 7)) (n9 := (s9 + 42)) (ob3 (c := c9) (d := 7) (e := 7) rfl) (ob3 (c := s9) (d := 42) (e := 42) rfl) ?_
              exact hj484 ((q_variant z (q_ranked z x3 : Int32) (1 : Int32) : Int32) - (q_variant z (q_ranked z (x3 - (1 : Int32)) : Int32) (1 : Int32) : Int32)) _ h hdk
          · refine v_aload_n cx dL_sound_416 rfl 2 rfl ?_
            refine v_iload cx dL_sound_417 7 rfl ?_
            refine v_iconst (v := 0) cx dL_sound_419 (by decide) ?_
            refine a_variant cx hl (by decide) ⟨(ob1 (c := c9) (d := 6) hc9 hcm rfl), (ob1 (c := s9) (d := 36) hs9 hsm rfl)⟩ (Nat.le_of_ble_eq_true rfl) dL_sound_420 hdk (fun w hdk => ?_)
            refine v_aload_n cx dL_sound_423 rfl 2 rfl ?_
            refine v_iload cx dL_sound_424 6 rfl ?_
            refine v_iconst (v := 0) cx dL_sound_426 (by decide) ?_
            refine a_variant cx hl (by decide) ⟨(ob1 (c := c9) (d := 7) hc9 hcm rfl), (ob1 (c := s9) (d := 42) hs9 hsm rfl)⟩ (Nat.le_of_ble_eq_true rfl) dL_sound_427 hdk (fun w hdk => ?_)
            refine v_isub cx dL_sound_430 ?_
            refine v_goto (tgt := 484) cx dL_sound_431 (by decide) ?_
            refine v_lv (lv' := [(0, .ref q_p0), (1, .int x1), (2, .int x2), (3, .int x3), (4, .int (q_ranked z (x3 - (1 : Int32)) : Int32)), (5, .int (q_ranked z x3 : Int32)), (6, .int y_28), (7, .int (q_whole z (7 : Int32) : Int32))]) [2, 3, 4, 5, 6, 7, 1, 0] rfl ?_
            refine v_widen (k9 := (c9 + 7)) (n9 := (s9 + 42)) (ob3 (c := c9) (d := 7) (e := 7) rfl) (ob3 (c := s9) (d := 42) (e := 42) rfl) ?_
            exact hj484 ((q_variant z (q_ranked z x3 : Int32) (0 : Int32) : Int32) - (q_variant z (q_ranked z (x3 - (1 : Int32)) : Int32) (0 : Int32) : Int32)) _ h hdk
        · refine v_aload_n cx dL_sound_392 rfl 2 rfl ?_
          refine v_iload cx dL_sound_393 6 rfl ?_
          refine v_iconst (v := 0) cx dL_sound_395 (by decide) ?_
          refine a_variant cx hl (by decide) ⟨(ob1 (c := c9) (d := 6) hc9 hcm rfl), (ob1 (c := s9) (d := 36) hs9 hsm rfl)⟩ (Nat.le_of_ble_eq_true rfl) dL_sound_396 hdk (fun w hdk => ?_)
          refine v_aload_n cx dL_sound_399 rfl 2 rfl ?_
          refine v_iload cx dL_sound_400 7 rfl ?_
          refine v_iconst (v := 0) cx dL_sound_402 (by decide) ?_
          refine a_variant cx hl (by decide) ⟨(ob1 (c := c9) (d := 7) hc9 hcm rfl), (ob1 (c := s9) (d := 42) hs9 hsm rfl)⟩ (Nat.le_of_ble_eq_true rfl) dL_sound_403 hdk (fun w hdk => ?_)
          refine v_isub cx dL_sound_406 ?_
          refine v_goto (tgt := 484) cx dL_sound_407 (by decide) ?_
          refine v_lv (lv' := [(0, .ref q_p0), (1, .int x1), (2, .int x2), (3, .int x3), (4, .int (q_ranked z (x3 - (1 : Int32)) : Int32)), (5, .int (q_ranked z x3 : Int32)), (6, .int y_28), (7, .int (q_whole z (7 : Int32) : Int32))]) [2, 3, 4, 5, 6, 7, 1, 0] rfl ?_
          refine v_widen (k9 := (c9 + 7)) (n9 := (s9 + 42)) (ob3 (c := c9) (d := 7) (e := 7) rfl) (ob3 (c := s9) (d := 42) (e := 42) rfl) ?_
          exact hj484 ((q_variant z (q_ranked z (x3 - (1 : Int32)) : Int32) (0 : Int32) : Int32) - (q_variant z (q_ranked z x3 : Int32) (0 : Int32) : Int32)) _ h hdk
      refine v_icmp_ne (tgt := 375) cx dL_sound_368 (by decide) h (fun h => ?_) (fun h => ?_)
      · refine v_iconst (v := 0) cx dL_sound_375 (by decide) ?_
        refine v_lv (lv' := [(0, .ref q_p0), (1, .int x1), (2, .int x2), (3, .int x3), (4, .int (q_ranked z (x3 - (1 : Int32)) : Int32)), (5, .int (q_ranked z x3 : Int32))]) [2, 3, 4, 5, 1, 0] rfl ?_
        refine v_widen (k9 := (c9 + 4)) (n9 := (s9 + 24)) (ob3 (c := c9) (d := 4) (e := 4) rfl) (ob3 (c := s9) (d := 24) (e := 24) rfl) ?_
        exact hj376 0 _ h hdk
      · refine v_iconst (v := 1) cx dL_sound_371 (by decide) ?_
        refine v_goto (tgt := 376) cx dL_sound_372 (by decide) ?_
        refine v_lv (lv' := [(0, .ref q_p0), (1, .int x1), (2, .int x2), (3, .int x3), (4, .int (q_ranked z (x3 - (1 : Int32)) : Int32)), (5, .int (q_ranked z x3 : Int32))]) [2, 3, 4, 5, 1, 0] rfl ?_
        refine v_widen (k9 := (c9 + 4)) (n9 := (s9 + 24)) (ob3 (c := c9) (d := 4) (e := 4) rfl) (ob3 (c := s9) (d := 24) (e := 24) rfl) ?_
        exact hj376 1 _ h hdk
set_option maxHeartbeats 40000000 in
set_option maxRecDepth 100000 in
theorem c_L_sound (l : Launch) (hl : l.stackTraces = false) (g : gT) (D : va_G) (cy : Nat → ClassId) {q_p0 : Nat} {z : DS} {w : va_W} {Q : Int32 → Prop} (hdk : DK cy q_p0 z w) (h : p_L_sound z Q) : UC l yL_sound cL_sound 9 (some .boolean) rm_L_sound g D cy [.ref q_p0] w (fun v w => ∃ (r : Int32), v = some (.int r) ∧ DK cy q_p0 z w ∧ Q r) := by
  refine UC_of (by decide +kernel) (Nat.le_of_ble_eq_true rfl) [(0, .ref q_p0)] rfl (fun p e s m args below meth c A cx => ?_)
  unfold p_L_sound at h
  refine v_aload_n cx dL_sound_0 rfl 0 rfl ?_
  refine v_iconst (v := 0) cx dL_sound_1 (by decide) ?_
  refine a_whole cx hl (by decide) ⟨(Nat.le_of_ble_eq_true rfl), (Nat.le_of_ble_eq_true rfl)⟩ (Nat.le_of_ble_eq_true rfl) dL_sound_2 hdk (fun w hdk => ?_)
  refine v_istore_n (lv' := [(1, .int (q_whole z (0 : Int32) : Int32)), (0, .ref q_p0)]) cx dL_sound_5 rfl (by decide) rfl ?_
  refine v_iconst (v := 0) cx dL_sound_6 (by decide) ?_
  refine v_istore_n (lv' := [(2, .int 0), (1, .int (q_whole z (0 : Int32) : Int32)), (0, .ref q_p0)]) cx dL_sound_7 rfl (by decide) rfl ?_
  refine v_iconst (v := 0) cx dL_sound_8 (by decide) ?_
  refine v_istore_n (lv' := [(3, .int 0), (2, .int 0), (1, .int (q_whole z (0 : Int32) : Int32)), (0, .ref q_p0)]) cx dL_sound_9 rfl (by decide) rfl ?_
  refine v_lv (lv' := [(0, .ref q_p0), (1, .int (q_whole z (0 : Int32) : Int32)), (2, .int 0), (3, .int 0)]) [3, 2, 1, 0] rfl ?_
  refine w_L_sound_10 cx hl (cm := 528) (sm := 3168) (Nat.le_of_ble_eq_true rfl) (Nat.le_of_ble_eq_true rfl) ?_ ?_ ?_ 17 _ _ (Nat.le_refl _) (Nat.le_refl _) _ _ _ h hdk
  · intro x2_14 x3_15 x4_16 x5_17 x6_18 x7_19 x8_20 w h hdk
    refine v_iconst (v := 0) cx dL_sound_160 (by decide) ?_
    refine v_widen (k9 := 724) (n9 := 4344) (Nat.le_of_ble_eq_true rfl) (Nat.le_of_ble_eq_true rfl) ?_
    exact v_ireturn cx rfl dL_sound_161 ⟨_, rfl, hdk, h⟩
  · intro x2_21 x3_22 x4_23 x5_24 x6_25 w h hdk
    refine v_iconst (v := 0) cx dL_sound_323 (by decide) ?_
    refine v_widen (k9 := 724) (n9 := 4344) (Nat.le_of_ble_eq_true rfl) (Nat.le_of_ble_eq_true rfl) ?_
    exact v_ireturn cx rfl dL_sound_324 ⟨_, rfl, hdk, h⟩
  · intro x2_26 x3_27 w h hdk
    refine v_iconst (v := 1) cx dL_sound_331 (by decide) ?_
    refine v_istore_n (lv' := [(3, .int 1), (0, .ref q_p0), (1, .int (q_whole z (0 : Int32) : Int32)), (2, .int x2_26)]) cx dL_sound_332 rfl (by decide) rfl ?_
    refine v_lv (lv' := [(0, .ref q_p0), (1, .int (q_whole z (0 : Int32) : Int32)), (2, .int x2_26), (3, .int 1)]) [1, 2, 3, 0] rfl ?_
    refine w_L_sound_333 cx hl (cm := 715) (sm := 4290) (Nat.le_of_ble_eq_true rfl) (Nat.le_of_ble_eq_true rfl) ?_ ?_ 17 _ _ (Nat.le_refl _) (Nat.le_refl _) _ _ h hdk
    · intro x3_32 x4_33 x5_34 x6_35 x7_36 x8_37 w h hdk
      refine v_iconst (v := 0) cx dL_sound_548 (by decide) ?_
      refine v_widen (k9 := 724) (n9 := 4344) (Nat.le_of_ble_eq_true rfl) (Nat.le_of_ble_eq_true rfl) ?_
      exact v_ireturn cx rfl dL_sound_549 ⟨_, rfl, hdk, h⟩
    · intro x3_38 w h hdk
      refine v_aload_n cx dL_sound_556 rfl 0 rfl ?_
      refine v_iconst (v := 2) cx dL_sound_557 (by decide) ?_
      refine a_whole cx hl (by decide) ⟨(Nat.le_of_ble_eq_true rfl), (Nat.le_of_ble_eq_true rfl)⟩ (Nat.le_of_ble_eq_true rfl) dL_sound_558 hdk (fun w hdk => ?_)
      refine v_istore_n (lv' := [(3, .int (q_whole z (2 : Int32) : Int32)), (0, .ref q_p0), (1, .int (q_whole z (0 : Int32) : Int32)), (2, .int x2_26)]) cx dL_sound_561 rfl (by decide) rfl ?_
      refine v_aload_n cx dL_sound_562 rfl 1 rfl ?_
      refine v_iconst (v := 1) cx dL_sound_563 (by decide) ?_
      refine a_whole cx hl (by decide) ⟨(Nat.le_of_ble_eq_true rfl), (Nat.le_of_ble_eq_true rfl)⟩ (Nat.le_of_ble_eq_true rfl) dL_sound_564 hdk (fun w hdk => ?_)
      refine v_iload_n cx dL_sound_567 rfl 3 rfl ?_
      refine v_icmp_ne (tgt := 649) cx dL_sound_568 (by decide) h (fun h => ?_) (fun h => ?_)
      · refine v_iconst (v := 0) cx dL_sound_649 (by decide) ?_
        refine v_widen (k9 := 724) (n9 := 4344) (Nat.le_of_ble_eq_true rfl) (Nat.le_of_ble_eq_true rfl) ?_
        exact v_ireturn cx rfl dL_sound_650 ⟨_, rfl, hdk, h⟩
      · refine v_aload_n cx dL_sound_571 rfl 1 rfl ?_
        refine v_iload_n cx dL_sound_572 rfl 3 rfl ?_
        refine a_ranked cx hl (by decide) ⟨(Nat.le_of_ble_eq_true rfl), (Nat.le_of_ble_eq_true rfl)⟩ (Nat.le_of_ble_eq_true rfl) dL_sound_573 hdk (fun w hdk => ?_)
        refine v_iconst (v := (-1)) cx dL_sound_576 (by decide) ?_
        refine v_icmp_ne (tgt := 649) cx dL_sound_577 (by decide) h (fun h => ?_) (fun h => ?_)
        · refine v_iconst (v := 0) cx dL_sound_649 (by decide) ?_
          refine v_widen (k9 := 724) (n9 := 4344) (Nat.le_of_ble_eq_true rfl) (Nat.le_of_ble_eq_true rfl) ?_
          exact v_ireturn cx rfl dL_sound_650 ⟨_, rfl, hdk, h⟩
        · refine v_aload_n cx dL_sound_580 rfl 1 rfl ?_
          refine v_iload_n cx dL_sound_581 rfl 2 rfl ?_
          refine a_listed cx hl (by decide) ⟨(Nat.le_of_ble_eq_true rfl), (Nat.le_of_ble_eq_true rfl)⟩ (Nat.le_of_ble_eq_true rfl) dL_sound_582 hdk (fun w hdk => ?_)
          refine v_iconst (v := (-1)) cx dL_sound_585 (by decide) ?_
          refine v_icmp_ne (tgt := 649) cx dL_sound_586 (by decide) h (fun h => ?_) (fun h => ?_)
          · refine v_iconst (v := 0) cx dL_sound_649 (by decide) ?_
            refine v_widen (k9 := 724) (n9 := 4344) (Nat.le_of_ble_eq_true rfl) (Nat.le_of_ble_eq_true rfl) ?_
            exact v_ireturn cx rfl dL_sound_650 ⟨_, rfl, hdk, h⟩
          · refine v_iload_n cx dL_sound_589 rfl 0 rfl ?_
            refine v_aload_n cx dL_sound_590 rfl 1 rfl ?_
            refine v_iconst (v := 0) cx dL_sound_591 (by decide) ?_
            refine a_ranked cx hl (by decide) ⟨(Nat.le_of_ble_eq_true rfl), (Nat.le_of_ble_eq_true rfl)⟩ (Nat.le_of_ble_eq_true rfl) dL_sound_592 hdk (fun w hdk => ?_)
            refine v_icmp_ne (tgt := 649) cx dL_sound_595 (by decide) h (fun h => ?_) (fun h => ?_)
            · refine v_iconst (v := 0) cx dL_sound_649 (by decide) ?_
              refine v_widen (k9 := 724) (n9 := 4344) (Nat.le_of_ble_eq_true rfl) (Nat.le_of_ble_eq_true rfl) ?_
              exact v_ireturn cx rfl dL_sound_650 ⟨_, rfl, hdk, h⟩
            · refine v_aload_n cx dL_sound_598 rfl 1 rfl ?_
              refine v_iconst (v := 3) cx dL_sound_599 (by decide) ?_
              refine a_whole cx hl (by decide) ⟨(Nat.le_of_ble_eq_true rfl), (Nat.le_of_ble_eq_true rfl)⟩ (Nat.le_of_ble_eq_true rfl) dL_sound_600 hdk (fun w hdk => ?_)
              refine v_iload_n cx dL_sound_603 rfl 0 rfl ?_
              have hj617 : ∀ (y_39 : Int32) (w : va_W), p_L_sound_j617 z Q y_39 → DK cy q_p0 z w → vV p l e rm_L_sound s m args below meth c (MQ below (uQ D A (fun v w => ∃ (r : Int32), v = some (.int r) ∧ DK cy q_p0 z w ∧ Q r)) args s rm_L_sound.cells rm_L_sound.slots A) 9 D A 722 4332 w 617 [(0, .ref q_p0), (1, .int (q_whole z (0 : Int32) : Int32)), (2, .int x2_26), (3, .int (q_whole z (2 : Int32) : Int32))] [.int y_39, .int (q_whole z (3 : Int32) : Int32)] := by
                intro y_39 w h hdk
                unfold p_L_sound_j617 at h
                refine v_icmp_ne (tgt := 649) cx dL_sound_617 (by decide) h (fun h => ?_) (fun h => ?_)
                · refine v_iconst (v := 0) cx dL_sound_649 (by decide) ?_
                  refine v_widen (k9 := 724) (n9 := 4344) (Nat.le_of_ble_eq_true rfl) (Nat.le_of_ble_eq_true rfl) ?_
                  exact v_ireturn cx rfl dL_sound_650 ⟨_, rfl, hdk, h⟩
                · refine v_aload_n cx dL_sound_620 rfl 0 rfl ?_
                  refine a_agree cx (by decide) ⟨(Nat.le_of_ble_eq_true rfl), (Nat.le_of_ble_eq_true rfl)⟩ (Nat.le_of_ble_eq_true rfl) dL_sound_621 hdk (fun w hdk => ?_)
                  refine v_aload_n cx dL_sound_624 rfl 0 rfl ?_
                  refine v_iconst (v := 0) cx dL_sound_625 (by decide) ?_
                  refine a_servedFor cx hl (by decide) ⟨(Nat.le_of_ble_eq_true rfl), (Nat.le_of_ble_eq_true rfl)⟩ (Nat.le_of_ble_eq_true rfl) dL_sound_626 hdk (fun w hdk => ?_)
                  refine v_aload_n cx dL_sound_629 rfl 0 rfl ?_
                  refine v_iconst (v := 1) cx dL_sound_630 (by decide) ?_
                  refine a_servedFor cx hl (by decide) ⟨(Nat.le_of_ble_eq_true rfl), (Nat.le_of_ble_eq_true rfl)⟩ (Nat.le_of_ble_eq_true rfl) dL_sound_631 hdk (fun w hdk => ?_)
                  have hj642 : ∀ (y_40 : Int32) (w : va_W), p_L_sound_j642 z Q y_40 → DK cy q_p0 z w → vV p l e rm_L_sound s m args below meth c (MQ below (uQ D A (fun v w => ∃ (r : Int32), v = some (.int r) ∧ DK cy q_p0 z w ∧ Q r)) args s rm_L_sound.cells rm_L_sound.slots A) 9 D A 724 4344 w 642 [(0, .ref q_p0), (1, .int (q_whole z (0 : Int32) : Int32)), (2, .int x2_26), (3, .int (q_whole z (2 : Int32) : Int32))] [.int y_40, .int (q_agree z : Int32)] := by
                    intro y_40 w h hdk
                    unfold p_L_sound_j642 at h
                    refine v_icmp_ne (tgt := 649) cx dL_sound_642 (by decide) h (fun h => ?_) (fun h => ?_)
                    · refine v_iconst (v := 0) cx dL_sound_649 (by decide) ?_
                      refine v_widen (k9 := 724) (n9 := 4344) (Nat.le_of_ble_eq_true rfl) (Nat.le_of_ble_eq_true rfl) ?_
                      exact v_ireturn cx rfl dL_sound_650 ⟨_, rfl, hdk, h⟩
                    · refine v_iconst (v := 1) cx dL_sound_645 (by decide) ?_
                      refine v_goto (tgt := 650) cx dL_sound_646 (by decide) ?_
                      refine v_widen (k9 := 724) (n9 := 4344) (Nat.le_of_ble_eq_true rfl) (Nat.le_of_ble_eq_true rfl) ?_
                      exact v_ireturn cx rfl dL_sound_650 ⟨_, rfl, hdk, h⟩
                  refine v_icmp_ne (tgt := 641) cx dL_sound_634 (by decide) h (fun h => ?_) (fun h => ?_)
                  · refine v_iconst (v := 0) cx dL_sound_641 (by decide) ?_
                    refine v_lv (lv' := [(0, .ref q_p0), (1, .int (q_whole z (0 : Int32) : Int32)), (2, .int x2_26), (3, .int (q_whole z (2 : Int32) : Int32))]) [0, 1, 2, 3] rfl ?_
                    refine v_widen (k9 := 724) (n9 := 4344) (Nat.le_of_ble_eq_true rfl) (Nat.le_of_ble_eq_true rfl) ?_
                    exact hj642 0 _ h hdk
                  · refine v_iconst (v := 1) cx dL_sound_637 (by decide) ?_
                    refine v_goto (tgt := 642) cx dL_sound_638 (by decide) ?_
                    refine v_lv (lv' := [(0, .ref q_p0), (1, .int (q_whole z (0 : Int32) : Int32)), (2, .int x2_26), (3, .int (q_whole z (2 : Int32) : Int32))]) [0, 1, 2, 3] rfl ?_
                    refine v_widen (k9 := 724) (n9 := 4344) (Nat.le_of_ble_eq_true rfl) (Nat.le_of_ble_eq_true rfl) ?_
                    exact hj642 1 _ h hdk
              refine v_if_ge (tgt := 611) cx dL_sound_604 (by decide) h (fun h => ?_) (fun h => ?_)
              · refine v_aload_n cx dL_sound_611 rfl 1 rfl ?_
                refine v_iload_n cx dL_sound_612 rfl 0 rfl ?_
                refine v_iconst (v := 2) cx dL_sound_613 (by decide) ?_
                refine a_variant cx hl (by decide) ⟨(Nat.le_of_ble_eq_true rfl), (Nat.le_of_ble_eq_true rfl)⟩ (Nat.le_of_ble_eq_true rfl) dL_sound_614 hdk (fun w hdk => ?_)
                refine v_lv (lv' := [(0, .ref q_p0), (1, .int (q_whole z (0 : Int32) : Int32)), (2, .int x2_26), (3, .int (q_whole z (2 : Int32) : Int32))]) [1, 2, 3, 0] rfl ?_
                refine v_widen (k9 := 722) (n9 := 4332) (Nat.le_of_ble_eq_true rfl) (Nat.le_of_ble_eq_true rfl) ?_
                exact hj617 (q_variant z (q_whole z (2 : Int32) : Int32) (2 : Int32) : Int32) _ h hdk
              · refine v_iconst (v := 0) cx dL_sound_607 (by decide) ?_
                refine v_goto (tgt := 617) cx dL_sound_608 (by decide) ?_
                refine v_lv (lv' := [(0, .ref q_p0), (1, .int (q_whole z (0 : Int32) : Int32)), (2, .int x2_26), (3, .int (q_whole z (2 : Int32) : Int32))]) [1, 2, 3, 0] rfl ?_
                refine v_widen (k9 := 722) (n9 := 4332) (Nat.le_of_ble_eq_true rfl) (Nat.le_of_ble_eq_true rfl) ?_
                exact hj617 0 _ h hdk

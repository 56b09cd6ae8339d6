abbrev rm_L_lists : Room := { frames := 8, cells := 1933, slots := 11598, locals := 182 }
set_option maxHeartbeats 40000000 in
set_option maxRecDepth 100000 in
theorem w_L_lists_89 {p : Program} {l : Launch} {e : Env} {s : State} {m : MethodId} {args : Array Value} {below : List Frame} {meth : Method} {c : Code} {Q9 : State → Prop} {mn : String} {Ts : List Cond} {D : va_G} {cy : Nat → ClassId} {g : gT} {A : Nat → Prop} (cx : vC p s m args meth c cL_lists 11 (some .boolean) RL mn Ts D cy g A) (hl : l.stackTraces = false) {q_p0 : Nat} {x1 : Int32} {x2 : Int32} {x3 : Int32} {x4 : Int32} {x5 : Int32} {x6 : Int32} {x7 : Int32} {x8 : Int32} {z : DS} {K89_128 : Int32 → Int32 → Prop} {cm sm : Nat} (hcm : cm ≤ 1933) (hsm : sm ≤ 11598) (hK128 : ∀ (x9 : Int32) (x10 : Int32) (w : va_W), K89_128 x9 x10 → DK cy q_p0 z w → vV p l e rm_L_lists s m args below meth c Q9 11 D A cm sm w 128 [(0, .ref q_p0), (1, .int x1), (2, .int x2), (3, .int x3), (4, .int x4), (5, .int x5), (6, .int x6), (7, .int x7), (8, .int x8), (9, .int x9), (10, .int x10)] []) : ∀ (n c9 s9 : Nat), c9 + n * 1 ≤ cm → s9 + n * 6 ≤ sm → ∀ (x9 : Int32) (x10 : Int32) (w : va_W), p_L_lists_89 x1 z x2 x5 K89_128 n x9 x10 → DK cy q_p0 z w → vV p l e rm_L_lists s m args below meth c Q9 11 D A c9 s9 w 89 [(0, .ref q_p0), (1, .int x1), (2, .int x2), (3, .int x3), (4, .int x4), (5, .int x5), (6, .int x6), (7, .int x7), (8, .int x8), (9, .int x9), (10, .int x10)] [] := by
  intro n
  induction n with
  | zero => intro c9 s9 hc9 hs9 x9 x10 w h; exact False.elim h
  | succ n ih =>
    intro c9 s9 hc9 hs9 x9 x10 w h hdk
    unfold p_L_lists_89 at h
    refine v_iload cx dL_lists_89 10 rfl ?_
    refine v_iload_n cx dL_lists_91 rfl 1 rfl ?_
    refine v_icmp_ge (tgt := 128) cx dL_lists_92 (by decide) h (fun h => ?_) (fun h => ?_)
    · refine v_lv (lv' := [(0, .ref q_p0), (1, .int x1), (2, .int x2), (3, .int x3), (4, .int x4), (5, .int x5), (6, .int x6), (7, .int x7), (8, .int x8), (9, .int x9), (10, .int x10)]) [0, 1, 2, 3, 4, 5, 6, 7, 8, 9, 10] rfl ?_
      refine v_widen (k9 := cm) (n9 := sm) (ob2 (c := c9) (d := 0) hc9 rfl) (ob2 (c := s9) (d := 0) hs9 rfl) ?_
      exact hK128 _ _ _ h hdk
    · refine v_iload cx dL_lists_95 9 rfl ?_
      refine v_aload_n cx dL_lists_97 rfl 0 rfl ?_
      refine v_iload_n cx dL_lists_98 rfl 2 rfl ?_
      refine v_iconst (v := 3) cx dL_lists_99 (by decide) ?_
      refine v_idiv cx dL_lists_100 (by decide) ?_
      refine v_iload_n cx dL_lists_101 rfl 2 rfl ?_
      refine v_iconst (v := 3) cx dL_lists_102 (by decide) ?_
      refine v_irem cx dL_lists_103 (by decide) ?_
      refine v_iload cx dL_lists_104 10 rfl ?_
      refine a_counting cx hl (by decide) ⟨(ob1 (c := c9) (d := 1) hc9 hcm rfl), (ob1 (c := s9) (d := 6) hs9 hsm rfl)⟩ (Nat.le_of_ble_eq_true rfl) dL_lists_106 hdk (fun w hdk => ?_)
      refine v_iload cx dL_lists_109 5 rfl ?_
      have hj119 : ∀ (y_1 : Int32) (w : va_W), p_L_lists_j119 (p_L_lists_89 x1 z x2 x5 K89_128 n) x9 x10 y_1 → DK cy q_p0 z w → vV p l e rm_L_lists s m args below meth c Q9 11 D A (c9 + 1) (s9 + 6) w 119 [(0, .ref q_p0), (1, .int x1), (2, .int x2), (3, .int x3), (4, .int x4), (5, .int x5), (6, .int x6), (7, .int x7), (8, .int x8), (9, .int x9), (10, .int x10)] [.int y_1, .int x9] := by
        intro y_1 w h hdk
        unfold p_L_lists_j119 at h
        refine v_iadd cx dL_lists_119 ?_
        refine v_istore (lv' := [(9, .int (x9 + y_1)), (0, .ref q_p0), (1, .int x1), (2, .int x2), (3, .int x3), (4, .int x4), (5, .int x5), (6, .int x6), (7, .int x7), (8, .int x8), (10, .int x10)]) cx dL_lists_120 (by decide) rfl ?_
        refine v_iinc (v := x10 + 1) (k0 := 10) (lv' := [(10, .int (x10 + 1)), (9, .int (x9 + y_1)), (0, .ref q_p0), (1, .int x1), (2, .int x2), (3, .int x3), (4, .int x4), (5, .int x5), (6, .int x6), (7, .int x7), (8, .int x8)]) cx dL_lists_122 rfl rfl (by decide) rfl ?_
        refine v_goto (tgt := 89) cx dL_lists_125 (by decide) ?_
        refine v_lv (lv' := [(0, .ref q_p0), (1, .int x1), (2, .int x2), (3, .int x3), (4, .int x4), (5, .int x5), (6, .int x6), (7, .int x7), (8, .int x8), (9, .int (x9 + y_1)), (10, .int (x10 + 1))]) [2, 3, 4, 5, 6, 7, 8, 9, 10, 1, 0] rfl ?_
        refine v_widen (k9 := (c9 + 1)) (n9 := (s9 + 6)) (ob3 (c := c9) (d := 1) (e := 1) rfl) (ob3 (c := s9) (d := 6) (e := 6) rfl) ?_
        exact ih _ _ (ob4 hc9) (ob4 hs9) _ _ _ h hdk
      refine v_icmp_ne (tgt := 118) cx dL_lists_111 (by decide) h (fun h => ?_) (fun h => ?_)
      · refine v_iconst (v := 0) cx dL_lists_118 (by decide) ?_
        refine v_lv (lv' := [(0, .ref q_p0), (1, .int x1), (2, .int x2), (3, .int x3), (4, .int x4), (5, .int x5), (6, .int x6), (7, .int x7), (8, .int x8), (9, .int x9), (10, .int x10)]) [0, 1, 2, 3, 4, 5, 6, 7, 8, 9, 10] rfl ?_
        refine v_widen (k9 := (c9 + 1)) (n9 := (s9 + 6)) (ob3 (c := c9) (d := 1) (e := 1) rfl) (ob3 (c := s9) (d := 6) (e := 6) rfl) ?_
        exact hj119 0 _ h hdk
      · refine v_iconst (v := 1) cx dL_lists_114 (by decide) ?_
        refine v_goto (tgt := 119) cx dL_lists_115 (by decide) ?_
        refine v_lv (lv' := [(0, .ref q_p0), (1, .int x1), (2, .int x2), (3, .int x3), (4, .int x4), (5, .int x5), (6, .int x6), (7, .int x7), (8, .int x8), (9, .int x9), (10, .int x10)]) [0, 1, 2, 3, 4, 5, 6, 7, 8, 9, 10] rfl ?_
        refine v_widen (k9 := (c9 + 1)) (n9 := (s9 + 6)) (ob3 (c := c9) (d := 1) (e := 1) rfl) (ob3 (c := s9) (d := 6) (e := 6) rfl) ?_
        exact hj119 1 _ h hdk
set_option maxHeartbeats 40000000 in
set_option maxRecDepth 100000 in
theorem w_L_lists_22 {p : Program} {l : Launch} {e : Env} {s : State} {m : MethodId} {args : Array Value} {below : List Frame} {meth : Method} {c : Code} {Q9 : State → Prop} {mn : String} {Ts : List Cond} {D : va_G} {cy : Nat → ClassId} {g : gT} {A : Nat → Prop} (cx : vC p s m args meth c cL_lists 11 (some .boolean) RL mn Ts D cy g A) (hl : l.stackTraces = false) {q_p0 : Nat} {x1 : Int32} {x2 : Int32} {x4 : Int32} {z : DS} {K22_209 : Int32 → Int32 → Int32 → Int32 → Int32 → Int32 → Int32 → Prop} {K22_222 : Int32 → Int32 → Prop} {cm sm : Nat} (hcm : cm ≤ 1933) (hsm : sm ≤ 11598) (hK209 : ∀ (x3 : Int32) (x5 : Int32) (x6 : Int32) (x7 : Int32) (x8 : Int32) (x9 : Int32) (x10 : Int32) (w : va_W), K22_209 x3 x5 x6 x7 x8 x9 x10 → DK cy q_p0 z w → vV p l e rm_L_lists s m args below meth c Q9 11 D A cm sm w 209 [(0, .ref q_p0), (1, .int x1), (2, .int x2), (3, .int x3), (4, .int x4), (5, .int x5), (6, .int x6), (7, .int x7), (8, .int x8), (9, .int x9), (10, .int x10)] []) (hK222 : ∀ (x3 : Int32) (x5 : Int32) (w : va_W), K22_222 x3 x5 → DK cy q_p0 z w → vV p l e rm_L_lists s m args below meth c Q9 11 D A cm sm w 222 [(0, .ref q_p0), (1, .int x1), (2, .int x2), (3, .int x3), (4, .int x4), (5, .int x5)] []) : ∀ (n c9 s9 : Nat), c9 + n * 22 ≤ cm → s9 + n * 132 ≤ sm → ∀ (x3 : Int32) (x5 : Int32) (w : va_W), p_L_lists_22 z x2 x1 K22_209 K22_222 n x3 x5 → DK cy q_p0 z w → vV p l e rm_L_lists s m args below meth c Q9 11 D A c9 s9 w 22 [(0, .ref q_p0), (1, .int x1), (2, .int x2), (3, .int x3), (4, .int x4), (5, .int x5)] [] := by
  intro n
  induction n with
  | zero => intro c9 s9 hc9 hs9 x3 x5 w h; exact False.elim h
  | succ n ih =>
    intro c9 s9 hc9 hs9 x3 x5 w h hdk
    unfold p_L_lists_22 at h
    refine v_aload_n cx dL_lists_22 rfl 0 rfl ?_
    refine v_iload_n cx dL_lists_23 rfl 2 rfl ?_
    refine v_iconst (v := 3) cx dL_lists_24 (by decide) ?_
    refine v_idiv cx dL_lists_25 (by decide) ?_
    refine v_iload_n cx dL_lists_26 rfl 2 rfl ?_
    refine v_iconst (v := 3) cx dL_lists_27 (by decide) ?_
    refine v_irem cx dL_lists_28 (by decide) ?_
    refine v_iload cx dL_lists_29 5 rfl ?_
    refine v_iconst (v := 0) cx dL_lists_31 (by decide) ?_
    refine a_entry cx hl (by decide) ⟨(ob1 (c := c9) (d := 1) hc9 hcm rfl), (ob1 (c := s9) (d := 6) hs9 hsm rfl)⟩ (Nat.le_of_ble_eq_true rfl) dL_lists_32 hdk (fun w hdk => ?_)
    refine v_if_lt (tgt := 222) cx dL_lists_35 (by decide) h (fun h => ?_) (fun h => ?_)
    · refine v_lv (lv' := [(0, .ref q_p0), (1, .int x1), (2, .int x2), (3, .int x3), (4, .int x4), (5, .int x5)]) [0, 1, 2, 3, 4, 5] rfl ?_
      refine v_widen (k9 := cm) (n9 := sm) (ob2 (c := c9) (d := 1) hc9 rfl) (ob2 (c := s9) (d := 6) hs9 rfl) ?_
      exact hK222 _ _ _ h hdk
    · refine v_aload_n cx dL_lists_38 rfl 0 rfl ?_
      refine v_iload_n cx dL_lists_39 rfl 2 rfl ?_
      refine v_iconst (v := 3) cx dL_lists_40 (by decide) ?_
      refine v_idiv cx dL_lists_41 (by decide) ?_
      refine v_iload_n cx dL_lists_42 rfl 2 rfl ?_
      refine v_iconst (v := 3) cx dL_lists_43 (by decide) ?_
      refine v_irem cx dL_lists_44 (by decide) ?_
      refine v_iload cx dL_lists_45 5 rfl ?_
      refine v_iconst (v := 2) cx dL_lists_47 (by decide) ?_
      refine a_entry cx hl (by decide) ⟨(ob1 (c := c9) (d := 2) hc9 hcm rfl), (ob1 (c := s9) (d := 12) hs9 hsm rfl)⟩ (Nat.le_of_ble_eq_true rfl) dL_lists_48 hdk (fun w hdk => ?_)
      refine v_istore (lv' := [(6, .int (q_entry z (x2 / (3 : Int32)) (x2 - x2 / 3 * 3) x5 (2 : Int32) : Int32)), (0, .ref q_p0), (1, .int x1), (2, .int x2), (3, .int x3), (4, .int x4), (5, .int x5)]) cx dL_lists_51 (by decide) rfl ?_
      refine v_aload_n cx dL_lists_53 rfl 1 rfl ?_
      refine v_iload_n cx dL_lists_54 rfl 3 rfl ?_
      refine v_iconst (v := 3) cx dL_lists_55 (by decide) ?_
      refine v_idiv cx dL_lists_56 (by decide) ?_
      refine v_iload_n cx dL_lists_57 rfl 3 rfl ?_
      refine v_iconst (v := 3) cx dL_lists_58 (by decide) ?_
      refine v_irem cx dL_lists_59 (by decide) ?_
      refine v_iload cx dL_lists_60 6 rfl ?_
      refine v_iconst (v := 3) cx dL_lists_62 (by decide) ?_
      refine a_entry cx hl (by decide) ⟨(ob1 (c := c9) (d := 3) hc9 hcm rfl), (ob1 (c := s9) (d := 18) hs9 hsm rfl)⟩ (Nat.le_of_ble_eq_true rfl) dL_lists_63 hdk (fun w hdk => ?_)
      refine v_istore (lv' := [(7, .int (q_entry z (x2 / (3 : Int32)) (x2 - x2 / 3 * 3) x5 (3 : Int32) : Int32)), (6, .int (q_entry z (x2 / (3 : Int32)) (x2 - x2 / 3 * 3) x5 (2 : Int32) : Int32)), (0, .ref q_p0), (1, .int x1), (2, .int x2), (3, .int x3), (4, .int x4), (5, .int x5)]) cx dL_lists_66 (by decide) rfl ?_
      refine v_aload_n cx dL_lists_68 rfl 2 rfl ?_
      refine v_iload_n cx dL_lists_69 rfl 4 rfl ?_
      refine v_iconst (v := 3) cx dL_lists_70 (by decide) ?_
      refine v_idiv cx dL_lists_71 (by decide) ?_
      refine v_iload_n cx dL_lists_72 rfl 4 rfl ?_
      refine v_iconst (v := 3) cx dL_lists_73 (by decide) ?_
      refine v_irem cx dL_lists_74 (by decide) ?_
      refine v_iload cx dL_lists_75 7 rfl ?_
      refine v_iconst (v := 1) cx dL_lists_77 (by decide) ?_
      refine a_entry cx hl (by decide) ⟨(ob1 (c := c9) (d := 4) hc9 hcm rfl), (ob1 (c := s9) (d := 24) hs9 hsm rfl)⟩ (Nat.le_of_ble_eq_true rfl) dL_lists_78 hdk (fun w hdk => ?_)
      refine v_istore (lv' := [(8, .int (q_entry z (x2 / (3 : Int32)) (x2 - x2 / 3 * 3) x5 (1 : Int32) : Int32)), (7, .int (q_entry z (x2 / (3 : Int32)) (x2 - x2 / 3 * 3) x5 (3 : Int32) : Int32)), (6, .int (q_entry z (x2 / (3 : Int32)) (x2 - x2 / 3 * 3) x5 (2 : Int32) : Int32)), (0, .ref q_p0), (1, .int x1), (2, .int x2), (3, .int x3), (4, .int x4), (5, .int x5)]) cx dL_lists_81 (by decide) rfl ?_
      refine v_iconst (v := 0) cx dL_lists_83 (by decide) ?_
      refine v_istore (lv' := [(9, .int 0), (8, .int (q_entry z (x2 / (3 : Int32)) (x2 - x2 / 3 * 3) x5 (1 : Int32) : Int32)), (7, .int (q_entry z (x2 / (3 : Int32)) (x2 - x2 / 3 * 3) x5 (3 : Int32) : Int32)), (6, .int (q_entry z (x2 / (3 : Int32)) (x2 - x2 / 3 * 3) x5 (2 : Int32) : Int32)), (0, .ref q_p0), (1, .int x1), (2, .int x2), (3, .int x3), (4, .int x4), (5, .int x5)]) cx dL_lists_84 (by decide) rfl ?_
      refine v_iconst (v := 0) cx dL_lists_86 (by decide) ?_
      refine v_istore (lv' := [(10, .int 0), (9, .int 0), (8, .int (q_entry z (x2 / (3 : Int32)) (x2 - x2 / 3 * 3) x5 (1 : Int32) : Int32)), (7, .int (q_entry z (x2 / (3 : Int32)) (x2 - x2 / 3 * 3) x5 (3 : Int32) : Int32)), (6, .int (q_entry z (x2 / (3 : Int32)) (x2 - x2 / 3 * 3) x5 (2 : Int32) : Int32)), (0, .ref q_p0), (1, .int x1), (2, .int x2), (3, .int x3), (4, .int x4), (5, .int x5)]) cx dL_lists_87 (by decide) rfl ?_
      refine v_lv (lv' := [(0, .ref q_p0), (1, .int x1), (2, .int x2), (3, .int x3), (4, .int x4), (5, .int x5), (6, .int (q_entry z (x2 / (3 : Int32)) (x2 - x2 / 3 * 3) x5 (2 : Int32) : Int32)), (7, .int (q_entry z (x2 / (3 : Int32)) (x2 - x2 / 3 * 3) x5 (3 : Int32) : Int32)), (8, .int (q_entry z (x2 / (3 : Int32)) (x2 - x2 / 3 * 3) x5 (1 : Int32) : Int32)), (9, .int 0), (10, .int 0)]) [5, 6, 7, 8, 9, 10, 4, 3, 2, 1, 0] rfl ?_
      refine w_L_lists_89 cx hl (cm := (c9 + 21)) (sm := (s9 + 126)) (ob1 (c := c9) (d := 21) hc9 hcm rfl) (ob1 (c := s9) (d := 126) hs9 hsm rfl) ?_ 17 _ _ (Nat.le_refl _) (Nat.le_refl _) _ _ _ h hdk
      · intro x9_2 x10_3 w h hdk
        refine v_iload cx dL_lists_128 7 rfl ?_
        refine v_iload cx dL_lists_130 6 rfl ?_
        refine v_icmp_gt (tgt := 209) cx dL_lists_132 (by decide) h (fun h => ?_) (fun h => ?_)
        · refine v_lv (lv' := [(0, .ref q_p0), (1, .int x1), (2, .int x2), (3, .int x3), (4, .int x4), (5, .int x5), (6, .int (q_entry z (x2 / (3 : Int32)) (x2 - x2 / 3 * 3) x5 (2 : Int32) : Int32)), (7, .int (q_entry z (x2 / (3 : Int32)) (x2 - x2 / 3 * 3) x5 (3 : Int32) : Int32)), (8, .int (q_entry z (x2 / (3 : Int32)) (x2 - x2 / 3 * 3) x5 (1 : Int32) : Int32)), (9, .int x9_2), (10, .int x10_3)]) [0, 1, 2, 3, 4, 5, 6, 7, 8, 9, 10] rfl ?_
          refine v_widen (k9 := cm) (n9 := sm) (ob2 (c := c9) (d := 21) hc9 rfl) (ob2 (c := s9) (d := 126) hs9 rfl) ?_
          exact hK209 _ _ _ _ _ _ _ _ h hdk
        · refine v_iload cx dL_lists_135 6 rfl ?_
          refine v_iload_n cx dL_lists_137 rfl 1 rfl ?_
          refine v_icmp_gt (tgt := 209) cx dL_lists_138 (by decide) h (fun h => ?_) (fun h => ?_)
          · refine v_lv (lv' := [(0, .ref q_p0), (1, .int x1), (2, .int x2), (3, .int x3), (4, .int x4), (5, .int x5), (6, .int (q_entry z (x2 / (3 : Int32)) (x2 - x2 / 3 * 3) x5 (2 : Int32) : Int32)), (7, .int (q_entry z (x2 / (3 : Int32)) (x2 - x2 / 3 * 3) x5 (3 : Int32) : Int32)), (8, .int (q_entry z (x2 / (3 : Int32)) (x2 - x2 / 3 * 3) x5 (1 : Int32) : Int32)), (9, .int x9_2), (10, .int x10_3)]) [0, 1, 2, 3, 4, 5, 6, 7, 8, 9, 10] rfl ?_
            refine v_widen (k9 := cm) (n9 := sm) (ob2 (c := c9) (d := 21) hc9 rfl) (ob2 (c := s9) (d := 126) hs9 rfl) ?_
            exact hK209 _ _ _ _ _ _ _ _ h hdk
          · refine v_iload cx dL_lists_141 7 rfl ?_
            refine v_iload cx dL_lists_143 9 rfl ?_
            refine v_icmp_ne (tgt := 209) cx dL_lists_145 (by decide) h (fun h => ?_) (fun h => ?_)
            · refine v_lv (lv' := [(0, .ref q_p0), (1, .int x1), (2, .int x2), (3, .int x3), (4, .int x4), (5, .int x5), (6, .int (q_entry z (x2 / (3 : Int32)) (x2 - x2 / 3 * 3) x5 (2 : Int32) : Int32)), (7, .int (q_entry z (x2 / (3 : Int32)) (x2 - x2 / 3 * 3) x5 (3 : Int32) : Int32)), (8, .int (q_entry z (x2 / (3 : Int32)) (x2 - x2 / 3 * 3) x5 (1 : Int32) : Int32)), (9, .int x9_2), (10, .int x10_3)]) [0, 1, 2, 3, 4, 5, 6, 7, 8, 9, 10] rfl ?_
              refine v_widen (k9 := cm) (n9 := sm) (ob2 (c := c9) (d := 21) hc9 rfl) (ob2 (c := s9) (d := 126) hs9 rfl) ?_
              exact hK209 _ _ _ _ _ _ _ _ h hdk
            · refine v_iload cx dL_lists_148 8 rfl ?_
              refine v_if_lt (tgt := 209) cx dL_lists_150 (by decide) h (fun h => ?_) (fun h => ?_)
              · refine v_lv (lv' := [(0, .ref q_p0), (1, .int x1), (2, .int x2), (3, .int x3), (4, .int x4), (5, .int x5), (6, .int (q_entry z (x2 / (3 : Int32)) (x2 - x2 / 3 * 3) x5 (2 : Int32) : Int32)), (7, .int (q_entry z (x2 / (3 : Int32)) (x2 - x2 / 3 * 3) x5 (3 : Int32) : Int32)), (8, .int (q_entry z (x2 / (3 : Int32)) (x2 - x2 / 3 * 3) x5 (1 : Int32) : Int32)), (9, .int x9_2), (10, .int x10_3)]) [0, 1, 2, 3, 4, 5, 6, 7, 8, 9, 10] rfl ?_
                refine v_widen (k9 := cm) (n9 := sm) (ob2 (c := c9) (d := 21) hc9 rfl) (ob2 (c := s9) (d := 126) hs9 rfl) ?_
                exact hK209 _ _ _ _ _ _ _ _ h hdk
              · refine v_iload cx dL_lists_153 8 rfl ?_
                refine v_iload_n cx dL_lists_155 rfl 2 rfl ?_
                refine v_iconst (v := 3) cx dL_lists_156 (by decide) ?_
                refine v_irem cx dL_lists_157 (by decide) ?_
                have hj177 : ∀ (y_4 : Int32) (w : va_W), p_L_lists_j177 z x2 x5 K22_209 x3 x9_2 x10_3 (p_L_lists_22 z x2 x1 K22_209 K22_222 n) x1 y_4 → DK cy q_p0 z w → vV p l e rm_L_lists s m args below meth c Q9 11 D A (c9 + 21) (s9 + 126) w 177 [(0, .ref q_p0), (1, .int x1), (2, .int x2), (3, .int x3), (4, .int x4), (5, .int x5), (6, .int (q_entry z (x2 / (3 : Int32)) (x2 - x2 / 3 * 3) x5 (2 : Int32) : Int32)), (7, .int (q_entry z (x2 / (3 : Int32)) (x2 - x2 / 3 * 3) x5 (3 : Int32) : Int32)), (8, .int (q_entry z (x2 / (3 : Int32)) (x2 - x2 / 3 * 3) x5 (1 : Int32) : Int32)), (9, .int x9_2), (10, .int x10_3)] [.int y_4, .int (q_entry z (x2 / (3 : Int32)) (x2 - x2 / 3 * 3) x5 (1 : Int32) : Int32)] := by
                  intro y_4 w h hdk
                  unfold p_L_lists_j177 at h
                  refine v_icmp_gt (tgt := 209) cx dL_lists_177 (by decide) h (fun h => ?_) (fun h => ?_)
                  · refine v_lv (lv' := [(0, .ref q_p0), (1, .int x1), (2, .int x2), (3, .int x3), (4, .int x4), (5, .int x5), (6, .int (q_entry z (x2 / (3 : Int32)) (x2 - x2 / 3 * 3) x5 (2 : Int32) : Int32)), (7, .int (q_entry z (x2 / (3 : Int32)) (x2 - x2 / 3 * 3) x5 (3 : Int32) : Int32)), (8, .int (q_entry z (x2 / (3 : Int32)) (x2 - x2 / 3 * 3) x5 (1 : Int32) : Int32)), (9, .int x9_2), (10, .int x10_3)]) [0, 1, 2, 3, 4, 5, 6, 7, 8, 9, 10] rfl ?_
                    refine v_widen (k9 := cm) (n9 := sm) (ob2 (c := c9) (d := 21) hc9 rfl) (ob2 (c := s9) (d := 126) hs9 rfl) ?_
                    exact hK209 _ _ _ _ _ _ _ _ h hdk
                  · refine v_iload cx dL_lists_180 8 rfl ?_
                    have hj191 : ∀ (w : va_W), p_L_lists_j191 z x2 x5 (p_L_lists_22 z x2 x1 K22_209 K22_222 n) x3 K22_209 x9_2 x10_3 → DK cy q_p0 z w → vV p l e rm_L_lists s m args below meth c Q9 11 D A (c9 + 21) (s9 + 126) w 191 [(0, .ref q_p0), (1, .int x1), (2, .int x2), (3, .int x3), (4, .int x4), (5, .int x5), (6, .int (q_entry z (x2 / (3 : Int32)) (x2 - x2 / 3 * 3) x5 (2 : Int32) : Int32)), (7, .int (q_entry z (x2 / (3 : Int32)) (x2 - x2 / 3 * 3) x5 (3 : Int32) : Int32)), (8, .int (q_entry z (x2 / (3 : Int32)) (x2 - x2 / 3 * 3) x5 (1 : Int32) : Int32)), (9, .int x9_2), (10, .int x10_3)] [] := by
                      intro w h hdk
                      unfold p_L_lists_j191 at h
                      refine v_aload_n cx dL_lists_191 rfl 0 rfl ?_
                      refine v_iload_n cx dL_lists_192 rfl 2 rfl ?_
                      refine v_iconst (v := 3) cx dL_lists_193 (by decide) ?_
                      refine v_idiv cx dL_lists_194 (by decide) ?_
                      refine v_iload_n cx dL_lists_195 rfl 2 rfl ?_
                      refine v_iconst (v := 3) cx dL_lists_196 (by decide) ?_
                      refine v_irem cx dL_lists_197 (by decide) ?_
                      refine v_iload cx dL_lists_198 5 rfl ?_
                      refine v_iconst (v := 4) cx dL_lists_200 (by decide) ?_
                      refine a_entry cx hl (by decide) ⟨(ob1 (c := c9) (d := 22) hc9 hcm rfl), (ob1 (c := s9) (d := 132) hs9 hsm rfl)⟩ (Nat.le_of_ble_eq_true rfl) dL_lists_201 hdk (fun w hdk => ?_)
                      refine v_ldc cx dL_lists_204 wK_L_17 ?_
                      refine v_icmp_eq (tgt := 211) cx dL_lists_206 (by decide) h (fun h => ?_) (fun h => ?_)
                      · refine v_iload_n cx dL_lists_211 rfl 3 rfl ?_
                        refine v_iload cx dL_lists_212 7 rfl ?_
                        refine v_iadd cx dL_lists_214 ?_
                        refine v_istore_n (lv' := [(3, .int (x3 + (q_entry z (x2 / (3 : Int32)) (x2 - x2 / 3 * 3) x5 (3 : Int32) : Int32))), (0, .ref q_p0), (1, .int x1), (2, .int x2), (4, .int x4), (5, .int x5), (6, .int (q_entry z (x2 / (3 : Int32)) (x2 - x2 / 3 * 3) x5 (2 : Int32) : Int32)), (7, .int (q_entry z (x2 / (3 : Int32)) (x2 - x2 / 3 * 3) x5 (3 : Int32) : Int32)), (8, .int (q_entry z (x2 / (3 : Int32)) (x2 - x2 / 3 * 3) x5 (1 : Int32) : Int32)), (9, .int x9_2), (10, .int x10_3)]) cx dL_lists_215 rfl (by decide) rfl ?_
                        refine v_iinc (v := x5 + 1) (k0 := 5) (lv' := [(5, .int (x5 + 1)), (3, .int (x3 + (q_entry z (x2 / (3 : Int32)) (x2 - x2 / 3 * 3) x5 (3 : Int32) : Int32))), (0, .ref q_p0), (1, .int x1), (2, .int x2), (4, .int x4), (6, .int (q_entry z (x2 / (3 : Int32)) (x2 - x2 / 3 * 3) x5 (2 : Int32) : Int32)), (7, .int (q_entry z (x2 / (3 : Int32)) (x2 - x2 / 3 * 3) x5 (3 : Int32) : Int32)), (8, .int (q_entry z (x2 / (3 : Int32)) (x2 - x2 / 3 * 3) x5 (1 : Int32) : Int32)), (9, .int x9_2), (10, .int x10_3)]) cx dL_lists_216 rfl rfl (by decide) rfl ?_
                        refine v_goto (tgt := 22) cx dL_lists_219 (by decide) ?_
                        refine v_lv (lv' := [(0, .ref q_p0), (1, .int x1), (2, .int x2), (3, .int (x3 + (q_entry z (x2 / (3 : Int32)) (x2 - x2 / 3 * 3) x5 (3 : Int32) : Int32))), (4, .int x4), (5, .int (x5 + 1))]) [2, 3, 4, 1, 5, 0] rfl ?_
                        refine v_widen (k9 := (c9 + 22)) (n9 := (s9 + 132)) (ob3 (c := c9) (d := 22) (e := 22) rfl) (ob3 (c := s9) (d := 132) (e := 132) rfl) ?_
                        exact ih _ _ (ob4 hc9) (ob4 hs9) _ _ _ h hdk
                      · refine v_lv (lv' := [(0, .ref q_p0), (1, .int x1), (2, .int x2), (3, .int x3), (4, .int x4), (5, .int x5), (6, .int (q_entry z (x2 / (3 : Int32)) (x2 - x2 / 3 * 3) x5 (2 : Int32) : Int32)), (7, .int (q_entry z (x2 / (3 : Int32)) (x2 - x2 / 3 * 3) x5 (3 : Int32) : Int32)), (8, .int (q_entry z (x2 / (3 : Int32)) (x2 - x2 / 3 * 3) x5 (1 : Int32) : Int32)), (9, .int x9_2), (10, .int x10_3)]) [0, 1, 2, 3, 4, 5, 6, 7, 8, 9, 10] rfl ?_
                        refine v_widen (k9 := cm) (n9 := sm) (ob2 (c := c9) (d := 22) hc9 rfl) (ob2 (c := s9) (d := 132) hs9 rfl) ?_
                        exact hK209 _ _ _ _ _ _ _ _ h hdk
                    refine v_if_ne (tgt := 191) cx dL_lists_182 (by decide) h (fun h => ?_) (fun h => ?_)
                    · refine v_lv (lv' := [(0, .ref q_p0), (1, .int x1), (2, .int x2), (3, .int x3), (4, .int x4), (5, .int x5), (6, .int (q_entry z (x2 / (3 : Int32)) (x2 - x2 / 3 * 3) x5 (2 : Int32) : Int32)), (7, .int (q_entry z (x2 / (3 : Int32)) (x2 - x2 / 3 * 3) x5 (3 : Int32) : Int32)), (8, .int (q_entry z (x2 / (3 : Int32)) (x2 - x2 / 3 * 3) x5 (1 : Int32) : Int32)), (9, .int x9_2), (10, .int x10_3)]) [0, 1, 2, 3, 4, 5, 6, 7, 8, 9, 10] rfl ?_
                      refine v_widen (k9 := (c9 + 21)) (n9 := (s9 + 126)) (ob3 (c := c9) (d := 21) (e := 21) rfl) (ob3 (c := s9) (d := 126) (e := 126) rfl) ?_
                      exact hj191 _ h hdk
                    · refine v_iload cx dL_lists_185 6 rfl ?_
                      refine v_iload_n cx dL_lists_187 rfl 1 rfl ?_
                      refine v_icmp_ne (tgt := 209) cx dL_lists_188 (by decide) h (fun h => ?_) (fun h => ?_)
                      · refine v_lv (lv' := [(0, .ref q_p0), (1, .int x1), (2, .int x2), (3, .int x3), (4, .int x4), (5, .int x5), (6, .int (q_entry z (x2 / (3 : Int32)) (x2 - x2 / 3 * 3) x5 (2 : Int32) : Int32)), (7, .int (q_entry z (x2 / (3 : Int32)) (x2 - x2 / 3 * 3) x5 (3 : Int32) : Int32)), (8, .int (q_entry z (x2 / (3 : Int32)) (x2 - x2 / 3 * 3) x5 (1 : Int32) : Int32)), (9, .int x9_2), (10, .int x10_3)]) [0, 1, 2, 3, 4, 5, 6, 7, 8, 9, 10] rfl ?_
                        refine v_widen (k9 := cm) (n9 := sm) (ob2 (c := c9) (d := 21) hc9 rfl) (ob2 (c := s9) (d := 126) hs9 rfl) ?_
                        exact hK209 _ _ _ _ _ _ _ _ h hdk
                      · refine v_lv (lv' := [(0, .ref q_p0), (1, .int x1), (2, .int x2), (3, .int x3), (4, .int x4), (5, .int x5), (6, .int (q_entry z (x2 / (3 : Int32)) (x2 - x2 / 3 * 3) x5 (2 : Int32) : Int32)), (7, .int (q_entry z (x2 / (3 : Int32)) (x2 - x2 / 3 * 3) x5 (3 : Int32) : Int32)), (8, .int (q_entry z (x2 / (3 : Int32)) (x2 - x2 / 3 * 3) x5 (1 : Int32) : Int32)), (9, .int x9_2), (10, .int x10_3)]) [0, 1, 2, 3, 4, 5, 6, 7, 8, 9, 10] rfl ?_
                        refine v_widen (k9 := (c9 + 21)) (n9 := (s9 + 126)) (ob3 (c := c9) (d := 21) (e := 21) rfl) (ob3 (c := s9) (d := 126) (e := 126) rfl) ?_
                        exact hj191 _ h hdk
                refine v_if_ne (tgt := 165) cx dL_lists_158 (by decide) h (fun h => ?_) (fun h => ?_)
                · refine v_iload_n cx dL_lists_165 rfl 2 rfl ?_
                  refine v_iconst (v := 3) cx dL_lists_166 (by decide) ?_
                  refine v_irem cx dL_lists_167 (by decide) ?_
                  refine v_iconst (v := 1) cx dL_lists_168 (by decide) ?_
                  refine v_icmp_ne (tgt := 176) cx dL_lists_169 (by decide) h (fun h => ?_) (fun h => ?_)
                  · refine v_iconst (v := 1) cx dL_lists_176 (by decide) ?_
                    refine v_lv (lv' := [(0, .ref q_p0), (1, .int x1), (2, .int x2), (3, .int x3), (4, .int x4), (5, .int x5), (6, .int (q_entry z (x2 / (3 : Int32)) (x2 - x2 / 3 * 3) x5 (2 : Int32) : Int32)), (7, .int (q_entry z (x2 / (3 : Int32)) (x2 - x2 / 3 * 3) x5 (3 : Int32) : Int32)), (8, .int (q_entry z (x2 / (3 : Int32)) (x2 - x2 / 3 * 3) x5 (1 : Int32) : Int32)), (9, .int x9_2), (10, .int x10_3)]) [0, 1, 2, 3, 4, 5, 6, 7, 8, 9, 10] rfl ?_
                    refine v_widen (k9 := (c9 + 21)) (n9 := (s9 + 126)) (ob3 (c := c9) (d := 21) (e := 21) rfl) (ob3 (c := s9) (d := 126) (e := 126) rfl) ?_
                    exact hj177 1 _ h hdk
                  · refine v_iconst (v := 3) cx dL_lists_172 (by decide) ?_
                    refine v_goto (tgt := 177) cx dL_lists_173 (by decide) ?_
                    refine v_lv (lv' := [(0, .ref q_p0), (1, .int x1), (2, .int x2), (3, .int x3), (4, .int x4), (5, .int x5), (6, .int (q_entry z (x2 / (3 : Int32)) (x2 - x2 / 3 * 3) x5 (2 : Int32) : Int32)), (7, .int (q_entry z (x2 / (3 : Int32)) (x2 - x2 / 3 * 3) x5 (3 : Int32) : Int32)), (8, .int (q_entry z (x2 / (3 : Int32)) (x2 - x2 / 3 * 3) x5 (1 : Int32) : Int32)), (9, .int x9_2), (10, .int x10_3)]) [0, 1, 2, 3, 4, 5, 6, 7, 8, 9, 10] rfl ?_
                    refine v_widen (k9 := (c9 + 21)) (n9 := (s9 + 126)) (ob3 (c := c9) (d := 21) (e := 21) rfl) (ob3 (c := s9) (d := 126) (e := 126) rfl) ?_
                    exact hj177 3 _ h hdk
                · refine v_iconst (v := 2) cx dL_lists_161 (by decide) ?_
                  refine v_goto (tgt := 177) cx dL_lists_162 (by decide) ?_
                  refine v_lv (lv' := [(0, .ref q_p0), (1, .int x1), (2, .int x2), (3, .int x3), (4, .int x4), (5, .int x5), (6, .int (q_entry z (x2 / (3 : Int32)) (x2 - x2 / 3 * 3) x5 (2 : Int32) : Int32)), (7, .int (q_entry z (x2 / (3 : Int32)) (x2 - x2 / 3 * 3) x5 (3 : Int32) : Int32)), (8, .int (q_entry z (x2 / (3 : Int32)) (x2 - x2 / 3 * 3) x5 (1 : Int32) : Int32)), (9, .int x9_2), (10, .int x10_3)]) [0, 1, 2, 3, 4, 5, 6, 7, 8, 9, 10] rfl ?_
                  refine v_widen (k9 := (c9 + 21)) (n9 := (s9 + 126)) (ob3 (c := c9) (d := 21) (e := 21) rfl) (ob3 (c := s9) (d := 126) (e := 126) rfl) ?_
                  exact hj177 2 _ h hdk
set_option maxHeartbeats 40000000 in
set_option maxRecDepth 100000 in
theorem w_L_lists_225 {p : Program} {l : Launch} {e : Env} {s : State} {m : MethodId} {args : Array Value} {below : List Frame} {meth : Method} {c : Code} {Q9 : State → Prop} {mn : String} {Ts : List Cond} {D : va_G} {cy : Nat → ClassId} {g : gT} {A : Nat → Prop} (cx : vC p s m args meth c cL_lists 11 (some .boolean) RL mn Ts D cy g A) (hl : l.stackTraces = false) {q_p0 : Nat} {x1 : Int32} {x2 : Int32} {x3 : Int32} {x5 : Int32} {z : DS} {K225_280 : Int32 → Int32 → Prop} {K225_288 : Int32 → Int32 → Prop} {cm sm : Nat} (hcm : cm ≤ 1933) (hsm : sm ≤ 11598) (hK280 : ∀ (x4 : Int32) (x6 : Int32) (w : va_W), K225_280 x4 x6 → DK cy q_p0 z w → vV p l e rm_L_lists s m args below meth c Q9 11 D A cm sm w 280 [(0, .ref q_p0), (1, .int x1), (2, .int x2), (3, .int x3), (4, .int x4), (5, .int x5), (6, .int x6)] []) (hK288 : ∀ (x4 : Int32) (x6 : Int32) (w : va_W), K225_288 x4 x6 → DK cy q_p0 z w → vV p l e rm_L_lists s m args below meth c Q9 11 D A cm sm w 288 [(0, .ref q_p0), (1, .int x1), (2, .int x2), (3, .int x3), (4, .int x4), (5, .int x5), (6, .int x6)] []) : ∀ (n c9 s9 : Nat), c9 + n * 2 ≤ cm → s9 + n * 12 ≤ sm → ∀ (x4 : Int32) (x6 : Int32) (w : va_W), p_L_lists_225 x1 z x2 x5 K225_280 K225_288 n x4 x6 → DK cy q_p0 z w → vV p l e rm_L_lists s m args below meth c Q9 11 D A c9 s9 w 225 [(0, .ref q_p0), (1, .int x1), (2, .int x2), (3, .int x3), (4, .int x4), (5, .int x5), (6, .int x6)] [] := by
  intro n
  induction n with
  | zero => intro c9 s9 hc9 hs9 x4 x6 w h; exact False.elim h
  | succ n ih =>
    intro c9 s9 hc9 hs9 x4 x6 w h hdk
    unfold p_L_lists_225 at h
    refine v_iload cx dL_lists_225 6 rfl ?_
    refine v_iload_n cx dL_lists_227 rfl 1 rfl ?_
    refine v_icmp_ge (tgt := 288) cx dL_lists_228 (by decide) h (fun h => ?_) (fun h => ?_)
    · refine v_lv (lv' := [(0, .ref q_p0), (1, .int x1), (2, .int x2), (3, .int x3), (4, .int x4), (5, .int x5), (6, .int x6)]) [0, 1, 2, 3, 4, 5, 6] rfl ?_
      refine v_widen (k9 := cm) (n9 := sm) (ob2 (c := c9) (d := 0) hc9 rfl) (ob2 (c := s9) (d := 0) hs9 rfl) ?_
      exact hK288 _ _ _ h hdk
    · refine v_iload cx dL_lists_231 4 rfl ?_
      refine v_aload_n cx dL_lists_233 rfl 0 rfl ?_
      refine v_iload_n cx dL_lists_234 rfl 2 rfl ?_
      refine v_iconst (v := 3) cx dL_lists_235 (by decide) ?_
      refine v_idiv cx dL_lists_236 (by decide) ?_
      refine v_iload_n cx dL_lists_237 rfl 2 rfl ?_
      refine v_iconst (v := 3) cx dL_lists_238 (by decide) ?_
      refine v_irem cx dL_lists_239 (by decide) ?_
      refine v_iload cx dL_lists_240 6 rfl ?_
      refine a_counting cx hl (by decide) ⟨(ob1 (c := c9) (d := 1) hc9 hcm rfl), (ob1 (c := s9) (d := 6) hs9 hsm rfl)⟩ (Nat.le_of_ble_eq_true rfl) dL_lists_242 hdk (fun w hdk => ?_)
      refine v_iconst (v := (-1)) cx dL_lists_245 (by decide) ?_
      have hj254 : ∀ (y_14 : Int32) (w : va_W), p_L_lists_j254 x5 (p_L_lists_225 x1 z x2 x5 K225_280 K225_288 n) x4 x6 z x2 K225_280 y_14 → DK cy q_p0 z w → vV p l e rm_L_lists s m args below meth c Q9 11 D A (c9 + 1) (s9 + 6) w 254 [(0, .ref q_p0), (1, .int x1), (2, .int x2), (3, .int x3), (4, .int x4), (5, .int x5), (6, .int x6)] [.int y_14, .int x4] := by
        intro y_14 w h hdk
        unfold p_L_lists_j254 at h
        refine v_iadd cx dL_lists_254 ?_
        refine v_istore (lv' := [(4, .int (x4 + y_14)), (0, .ref q_p0), (1, .int x1), (2, .int x2), (3, .int x3), (5, .int x5), (6, .int x6)]) cx dL_lists_255 (by decide) rfl ?_
        refine v_iload cx dL_lists_257 5 rfl ?_
        refine v_if_ne (tgt := 282) cx dL_lists_259 (by decide) h (fun h => ?_) (fun h => ?_)
        · refine v_iinc (v := x6 + 1) (k0 := 6) (lv' := [(6, .int (x6 + 1)), (4, .int (x4 + y_14)), (0, .ref q_p0), (1, .int x1), (2, .int x2), (3, .int x3), (5, .int x5)]) cx dL_lists_282 rfl rfl (by decide) rfl ?_
          refine v_goto (tgt := 225) cx dL_lists_285 (by decide) ?_
          refine v_lv (lv' := [(0, .ref q_p0), (1, .int x1), (2, .int x2), (3, .int x3), (4, .int (x4 + y_14)), (5, .int x5), (6, .int (x6 + 1))]) [2, 3, 4, 5, 1, 6, 0] rfl ?_
          refine v_widen (k9 := (c9 + 2)) (n9 := (s9 + 12)) (ob3 (c := c9) (d := 1) (e := 2) rfl) (ob3 (c := s9) (d := 6) (e := 12) rfl) ?_
          exact ih _ _ (ob4 hc9) (ob4 hs9) _ _ _ h hdk
        · refine v_aload_n cx dL_lists_262 rfl 1 rfl ?_
          refine v_iload_n cx dL_lists_263 rfl 3 rfl ?_
          refine v_iconst (v := 3) cx dL_lists_264 (by decide) ?_
          refine v_idiv cx dL_lists_265 (by decide) ?_
          refine v_iload_n cx dL_lists_266 rfl 3 rfl ?_
          refine v_iconst (v := 3) cx dL_lists_267 (by decide) ?_
          refine v_irem cx dL_lists_268 (by decide) ?_
          refine v_iload cx dL_lists_269 6 rfl ?_
          refine a_weight cx hl (by decide) ⟨(ob1 (c := c9) (d := 2) hc9 hcm rfl), (ob1 (c := s9) (d := 12) hs9 hsm rfl)⟩ (Nat.le_of_ble_eq_true rfl) dL_lists_271 hdk (fun w hdk => ?_)
          refine v_sipush (v := 1000) cx dL_lists_274 (by decide) ?_
          refine v_icmp_eq (tgt := 282) cx dL_lists_277 (by decide) h (fun h => ?_) (fun h => ?_)
          · refine v_iinc (v := x6 + 1) (k0 := 6) (lv' := [(6, .int (x6 + 1)), (4, .int (x4 + y_14)), (0, .ref q_p0), (1, .int x1), (2, .int x2), (3, .int x3), (5, .int x5)]) cx dL_lists_282 rfl rfl (by decide) rfl ?_
            refine v_goto (tgt := 225) cx dL_lists_285 (by decide) ?_
            refine v_lv (lv' := [(0, .ref q_p0), (1, .int x1), (2, .int x2), (3, .int x3), (4, .int (x4 + y_14)), (5, .int x5), (6, .int (x6 + 1))]) [2, 3, 4, 5, 1, 6, 0] rfl ?_
            refine v_widen (k9 := (c9 + 2)) (n9 := (s9 + 12)) (ob3 (c := c9) (d := 2) (e := 2) rfl) (ob3 (c := s9) (d := 12) (e := 12) rfl) ?_
            exact ih _ _ (ob4 hc9) (ob4 hs9) _ _ _ h hdk
          · refine v_lv (lv' := [(0, .ref q_p0), (1, .int x1), (2, .int x2), (3, .int x3), (4, .int (x4 + y_14)), (5, .int x5), (6, .int x6)]) [1, 2, 3, 4, 0, 5, 6] rfl ?_
            refine v_widen (k9 := cm) (n9 := sm) (ob2 (c := c9) (d := 2) hc9 rfl) (ob2 (c := s9) (d := 12) hs9 rfl) ?_
            exact hK280 _ _ _ h hdk
      refine v_icmp_ne (tgt := 253) cx dL_lists_246 (by decide) h (fun h => ?_) (fun h => ?_)
      · refine v_iconst (v := 1) cx dL_lists_253 (by decide) ?_
        refine v_lv (lv' := [(0, .ref q_p0), (1, .int x1), (2, .int x2), (3, .int x3), (4, .int x4), (5, .int x5), (6, .int x6)]) [0, 1, 2, 3, 4, 5, 6] rfl ?_
        refine v_widen (k9 := (c9 + 1)) (n9 := (s9 + 6)) (ob3 (c := c9) (d := 1) (e := 1) rfl) (ob3 (c := s9) (d := 6) (e := 6) rfl) ?_
        exact hj254 1 _ h hdk
      · refine v_iconst (v := 0) cx dL_lists_249 (by decide) ?_
        refine v_goto (tgt := 254) cx dL_lists_250 (by decide) ?_
        refine v_lv (lv' := [(0, .ref q_p0), (1, .int x1), (2, .int x2), (3, .int x3), (4, .int x4), (5, .int x5), (6, .int x6)]) [0, 1, 2, 3, 4, 5, 6] rfl ?_
        refine v_widen (k9 := (c9 + 1)) (n9 := (s9 + 6)) (ob3 (c := c9) (d := 1) (e := 1) rfl) (ob3 (c := s9) (d := 6) (e := 6) rfl) ?_
        exact hj254 0 _ h hdk
set_option maxHeartbeats 40000000 in
set_option maxRecDepth 100000 in
theorem w_L_lists_8 {p : Program} {l : Launch} {e : Env} {s : State} {m : MethodId} {args : Array Value} {below : List Frame} {meth : Method} {c : Code} {Q9 : State → Prop} {mn : String} {Ts : List Cond} {D : va_G} {cy : Nat → ClassId} {g : gT} {A : Nat → Prop} (cx : vC p s m args meth c cL_lists 11 (some .boolean) RL mn Ts D cy g A) (hl : l.stackTraces = false) {q_p0 : Nat} {x1 : Int32} {z : DS} {K8_209 : Int32 → Int32 → Int32 → Int32 → Int32 → Int32 → Int32 → Int32 → Int32 → Prop} {K8_280 : Int32 → Int32 → Int32 → Int32 → Int32 → Prop} {K8_301 : Int32 → Int32 → Int32 → Int32 → Int32 → Prop} {K8_309 : Int32 → Prop} {cm sm : Nat} (hcm : cm ≤ 1933) (hsm : sm ≤ 11598) (hK209 : ∀ (x2 : Int32) (x3 : Int32) (x4 : Int32) (x5 : Int32) (x6 : Int32) (x7 : Int32) (x8 : Int32) (x9 : Int32) (x10 : Int32) (w : va_W), K8_209 x2 x3 x4 x5 x6 x7 x8 x9 x10 → DK cy q_p0 z w → vV p l e rm_L_lists s m args below meth c Q9 11 D A cm sm w 209 [(0, .ref q_p0), (1, .int x1), (2, .int x2), (3, .int x3), (4, .int x4), (5, .int x5), (6, .int x6), (7, .int x7), (8, .int x8), (9, .int x9), (10, .int x10)] []) (hK280 : ∀ (x2 : Int32) (x3 : Int32) (x4 : Int32) (x5 : Int32) (x6 : Int32) (w : va_W), K8_280 x2 x3 x4 x5 x6 → DK cy q_p0 z w → vV p l e rm_L_lists s m args below meth c Q9 11 D A cm sm w 280 [(0, .ref q_p0), (1, .int x1), (2, .int x2), (3, .int x3), (4, .int x4), (5, .int x5), (6, .int x6)] []) (hK301 : ∀ (x2 : Int32) (x3 : Int32) (x4 : Int32) (x5 : Int32) (x6 : Int32) (w : va_W), K8_301 x2 x3 x4 x5 x6 → DK cy q_p0 z w → vV p l e rm_L_lists s m args below meth c Q9 11 D A cm sm w 301 [(0, .ref q_p0), (1, .int x1), (2, .int x2), (3, .int x3), (4, .int x4), (5, .int x5), (6, .int x6)] []) (hK309 : ∀ (x2 : Int32) (w : va_W), K8_309 x2 → DK cy q_p0 z w → vV p l e rm_L_lists s m args below meth c Q9 11 D A cm sm w 309 [(0, .ref q_p0), (1, .int x1), (2, .int x2)] []) : ∀ (n c9 s9 : Nat), c9 + n * 276 ≤ cm → s9 + n * 1656 ≤ sm → ∀ (x2 : Int32) (w : va_W), p_L_lists_8 z x1 K8_209 K8_280 K8_301 K8_309 n x2 → DK cy q_p0 z w → vV p l e rm_L_lists s m args below meth c Q9 11 D A c9 s9 w 8 [(0, .ref q_p0), (1, .int x1), (2, .int x2)] [] := by
  intro n
  induction n with
  | zero => intro c9 s9 hc9 hs9 x2 w h; exact False.elim h
  | succ n ih =>
    intro c9 s9 hc9 hs9 x2 w h hdk
    unfold p_L_lists_8 at h
    refine v_iload_n cx dL_lists_8 rfl 2 rfl ?_
    refine v_bipush (v := 6) cx dL_lists_9 (by decide) ?_
    refine v_icmp_ge (tgt := 309) cx dL_lists_11 (by decide) h (fun h => ?_) (fun h => ?_)
    · refine v_lv (lv' := [(0, .ref q_p0), (1, .int x1), (2, .int x2)]) [0, 1, 2] rfl ?_
      refine v_widen (k9 := cm) (n9 := sm) (ob2 (c := c9) (d := 0) hc9 rfl) (ob2 (c := s9) (d := 0) hs9 rfl) ?_
      exact hK309 _ _ h hdk
    · refine v_iconst (v := 0) cx dL_lists_14 (by decide) ?_
      refine v_istore_n (lv' := [(3, .int 0), (0, .ref q_p0), (1, .int x1), (2, .int x2)]) cx dL_lists_15 rfl (by decide) rfl ?_
      refine v_iconst (v := 0) cx dL_lists_16 (by decide) ?_
      refine v_istore (lv' := [(4, .int 0), (3, .int 0), (0, .ref q_p0), (1, .int x1), (2, .int x2)]) cx dL_lists_17 (by decide) rfl ?_
      refine v_iconst (v := 0) cx dL_lists_19 (by decide) ?_
      refine v_istore (lv' := [(5, .int 0), (4, .int 0), (3, .int 0), (0, .ref q_p0), (1, .int x1), (2, .int x2)]) cx dL_lists_20 (by decide) rfl ?_
      refine v_lv (lv' := [(0, .ref q_p0), (1, .int x1), (2, .int x2), (3, .int 0), (4, .int 0), (5, .int 0)]) [3, 4, 5, 2, 1, 0] rfl ?_
      refine w_L_lists_22 cx hl (cm := (c9 + 242)) (sm := (s9 + 1452)) (ob1 (c := c9) (d := 242) hc9 hcm rfl) (ob1 (c := s9) (d := 1452) hs9 hsm rfl) ?_ ?_ 11 _ _ (Nat.le_refl _) (Nat.le_refl _) _ _ _ h hdk
      · intro x3_5 x5_6 x6_7 x7_8 x8_9 x9_10 x10_11 w h hdk
        refine v_lv (lv' := [(0, .ref q_p0), (1, .int x1), (2, .int x2), (3, .int x3_5), (4, .int 0), (5, .int x5_6), (6, .int x6_7), (7, .int x7_8), (8, .int x8_9), (9, .int x9_10), (10, .int x10_11)]) [0, 1, 2, 3, 4, 5, 6, 7, 8, 9, 10] rfl ?_
        refine v_widen (k9 := cm) (n9 := sm) (ob2 (c := c9) (d := 242) hc9 rfl) (ob2 (c := s9) (d := 1452) hs9 rfl) ?_
        exact hK209 _ _ _ _ _ _ _ _ _ _ h hdk
      · intro x3_12 x5_13 w h hdk
        refine v_iconst (v := 0) cx dL_lists_222 (by decide) ?_
        refine v_istore (lv' := [(6, .int 0), (0, .ref q_p0), (1, .int x1), (2, .int x2), (3, .int x3_12), (4, .int 0), (5, .int x5_13)]) cx dL_lists_223 (by decide) rfl ?_
        refine v_lv (lv' := [(0, .ref q_p0), (1, .int x1), (2, .int x2), (3, .int x3_12), (4, .int 0), (5, .int x5_13), (6, .int 0)]) [1, 2, 3, 4, 5, 6, 0] rfl ?_
        refine w_L_lists_225 cx hl (cm := (c9 + 276)) (sm := (s9 + 1656)) (ob1 (c := c9) (d := 276) hc9 hcm rfl) (ob1 (c := s9) (d := 1656) hs9 hsm rfl) ?_ ?_ 17 _ _ (Nat.le_refl _) (Nat.le_refl _) _ _ _ h hdk
        · intro x4_15 x6_16 w h hdk
          refine v_lv (lv' := [(0, .ref q_p0), (1, .int x1), (2, .int x2), (3, .int x3_12), (4, .int x4_15), (5, .int x5_13), (6, .int x6_16)]) [0, 1, 2, 3, 4, 5, 6] rfl ?_
          refine v_widen (k9 := cm) (n9 := sm) (ob2 (c := c9) (d := 276) hc9 rfl) (ob2 (c := s9) (d := 1656) hs9 rfl) ?_
          exact hK280 _ _ _ _ _ _ h hdk
        · intro x4_17 x6_18 w h hdk
          refine v_iload_n cx dL_lists_288 rfl 3 rfl ?_
          refine v_iload cx dL_lists_289 4 rfl ?_
          refine v_icmp_ne (tgt := 301) cx dL_lists_291 (by decide) h (fun h => ?_) (fun h => ?_)
          · refine v_lv (lv' := [(0, .ref q_p0), (1, .int x1), (2, .int x2), (3, .int x3_12), (4, .int x4_17), (5, .int x5_13), (6, .int x6_18)]) [0, 1, 2, 3, 4, 5, 6] rfl ?_
            refine v_widen (k9 := cm) (n9 := sm) (ob2 (c := c9) (d := 276) hc9 rfl) (ob2 (c := s9) (d := 1656) hs9 rfl) ?_
            exact hK301 _ _ _ _ _ _ h hdk
          · refine v_iload cx dL_lists_294 5 rfl ?_
            refine v_bipush (v := 10) cx dL_lists_296 (by decide) ?_
            refine v_icmp_le (tgt := 303) cx dL_lists_298 (by decide) h (fun h => ?_) (fun h => ?_)
            · refine v_iinc (v := x2 + 1) (k0 := 2) (lv' := [(2, .int (x2 + 1)), (0, .ref q_p0), (1, .int x1), (3, .int x3_12), (4, .int x4_17), (5, .int x5_13), (6, .int x6_18)]) cx dL_lists_303 rfl rfl (by decide) rfl ?_
              refine v_goto (tgt := 8) cx dL_lists_306 (by decide) ?_
              refine v_lv (lv' := [(0, .ref q_p0), (1, .int x1), (2, .int (x2 + 1))]) [1, 2, 0] rfl ?_
              refine v_widen (k9 := (c9 + 276)) (n9 := (s9 + 1656)) (ob3 (c := c9) (d := 276) (e := 276) rfl) (ob3 (c := s9) (d := 1656) (e := 1656) rfl) ?_
              exact ih _ _ (ob4 hc9) (ob4 hs9) _ _ h hdk
            · refine v_lv (lv' := [(0, .ref q_p0), (1, .int x1), (2, .int x2), (3, .int x3_12), (4, .int x4_17), (5, .int x5_13), (6, .int x6_18)]) [0, 1, 2, 3, 4, 5, 6] rfl ?_
              refine v_widen (k9 := cm) (n9 := sm) (ob2 (c := c9) (d := 276) hc9 rfl) (ob2 (c := s9) (d := 1656) hs9 rfl) ?_
              exact hK301 _ _ _ _ _ _ h hdk
set_option maxHeartbeats 40000000 in
set_option maxRecDepth 100000 in
theorem c_L_lists (l : Launch) (hl : l.stackTraces = false) (g : gT) (D : va_G) (cy : Nat → ClassId) {q_p0 : Nat} {z : DS} {w : va_W} {Q : Int32 → Prop} (hdk : DK cy q_p0 z w) (h : p_L_lists z Q) : UC l yL_lists cL_lists 11 (some .boolean) rm_L_lists g D cy [.ref q_p0] w (fun v w => ∃ (r : Int32), v = some (.int r) ∧ DK cy q_p0 z w ∧ Q r) := by
  refine UC_of (by decide +kernel) (Nat.le_of_ble_eq_true rfl) [(0, .ref q_p0)] rfl (fun p e s m args below meth c A cx => ?_)
  unfold p_L_lists at h
  refine v_aload_n cx dL_lists_0 rfl 0 rfl ?_
  refine v_iconst (v := 0) cx dL_lists_1 (by decide) ?_
  refine a_whole cx hl (by decide) ⟨(Nat.le_of_ble_eq_true rfl), (Nat.le_of_ble_eq_true rfl)⟩ (Nat.le_of_ble_eq_true rfl) dL_lists_2 hdk (fun w hdk => ?_)
  refine v_istore_n (lv' := [(1, .int (q_whole z (0 : Int32) : Int32)), (0, .ref q_p0)]) cx dL_lists_5 rfl (by decide) rfl ?_
  refine v_iconst (v := 0) cx dL_lists_6 (by decide) ?_
  refine v_istore_n (lv' := [(2, .int 0), (1, .int (q_whole z (0 : Int32) : Int32)), (0, .ref q_p0)]) cx dL_lists_7 rfl (by decide) rfl ?_
  refine v_lv (lv' := [(0, .ref q_p0), (1, .int (q_whole z (0 : Int32) : Int32)), (2, .int 0)]) [2, 1, 0] rfl ?_
  refine w_L_lists_8 cx hl (cm := 1933) (sm := 11598) (Nat.le_of_ble_eq_true rfl) (Nat.le_of_ble_eq_true rfl) ?_ ?_ ?_ ?_ 7 _ _ (Nat.le_refl _) (Nat.le_refl _) _ _ h hdk
  · intro x2_19 x3_20 x4_21 x5_22 x6_23 x7_24 x8_25 x9_26 x10_27 w h hdk
    refine v_iconst (v := 0) cx dL_lists_209 (by decide) ?_
    refine v_widen (k9 := 1933) (n9 := 11598) (Nat.le_of_ble_eq_true rfl) (Nat.le_of_ble_eq_true rfl) ?_
    exact v_ireturn cx rfl dL_lists_210 ⟨_, rfl, hdk, h⟩
  · intro x2_28 x3_29 x4_30 x5_31 x6_32 w h hdk
    refine v_iconst (v := 0) cx dL_lists_280 (by decide) ?_
    refine v_widen (k9 := 1933) (n9 := 11598) (Nat.le_of_ble_eq_true rfl) (Nat.le_of_ble_eq_true rfl) ?_
    exact v_ireturn cx rfl dL_lists_281 ⟨_, rfl, hdk, h⟩
  · intro x2_33 x3_34 x4_35 x5_36 x6_37 w h hdk
    refine v_iconst (v := 0) cx dL_lists_301 (by decide) ?_
    refine v_widen (k9 := 1933) (n9 := 11598) (Nat.le_of_ble_eq_true rfl) (Nat.le_of_ble_eq_true rfl) ?_
    exact v_ireturn cx rfl dL_lists_302 ⟨_, rfl, hdk, h⟩
  · intro x2_38 w h hdk
    refine v_iconst (v := 1) cx dL_lists_309 (by decide) ?_
    refine v_widen (k9 := 1933) (n9 := 11598) (Nat.le_of_ble_eq_true rfl) (Nat.le_of_ble_eq_true rfl) ?_
    exact v_ireturn cx rfl dL_lists_310 ⟨_, rfl, hdk, h⟩

set_option maxHeartbeats 40000000 in
set_option maxRecDepth 100000 in
theorem w_L_law_65 {p : Program} {l : Launch} {e : Env} {s : State} {m : MethodId} {below : List Frame} {meth : Method} {c : Code} {mn : String} {D : va_G} {cy : Nat → ClassId} {g : gT} {b L : Nat} {xs : Nat → Int32} (hX : va_X b L xs s s.heap) (hbl : b < s.heap.size) (cx : vC p s m #[Value.ref b] meth c code 14 ret RL mn lw_tbl D cy g (fun q : Nat => s.heap.size ≤ q)) (hl : l.stackTraces = false) {q_p0 : Nat} {K65_179 : Int32 → DS → Int32 → Int32 → Int32 → Int32 → Int32 → Int32 → Int32 → Prop} {K65_201 : Int32 → DS → Int32 → Int32 → Int32 → Int32 → Int32 → Int32 → Int32 → Prop} {K65_309 : Int32 → DS → Int32 → Int32 → Int32 → Int32 → Int32 → Int32 → Int32 → Int32 → Int32 → Prop} {K65_469 : Int32 → DS → Int32 → Int32 → Int32 → Int32 → Int32 → Int32 → Int32 → Int32 → Int32 → Prop} {K65_570 : Int32 → DS → Int32 → Int32 → Int32 → Int32 → Int32 → Int32 → Int32 → Int32 → Prop} {K65_714 : Int32 → DS → Int32 → Int32 → Int32 → Int32 → Int32 → Int32 → Int32 → Int32 → Int32 → Int32 → Int32 → Prop} {K65_824 : Int32 → DS → Int32 → Int32 → Int32 → Int32 → Int32 → Int32 → Int32 → Int32 → Prop} {K65_838 : Int32 → DS → Int32 → Int32 → Int32 → Int32 → Int32 → Int32 → Int32 → Prop} {K65_888 : Int32 → DS → Int32 → Int32 → Int32 → Int32 → Int32 → Int32 → Int32 → Prop} {K65_896 : Int32 → DS → Prop} {cm sm : Nat} (hcm : cm ≤ 600104) (hsm : sm ≤ 7301314) (hK179 : ∀ (x2 : Int32) (z : DS) (x3 : Int32) (x4 : Int32) (x5 : Int32) (x6 : Int32) (x7 : Int32) (x8 : Int32) (x9 : Int32) (w : va_W), K65_179 x2 z x3 x4 x5 x6 x7 x8 x9 → DK cy q_p0 z w → vV p l e room_1 s m #[Value.ref b] below meth c (lw_Z below #[Value.ref b] s) 14 D (fun q : Nat => s.heap.size ≤ q) cm sm w 179 [(0, .ref b), (1, .ref q_p0), (2, .int x2), (3, .int x3), (4, .int x4), (5, .int x5), (6, .int x6), (7, .int x7), (8, .int x8), (9, .int x9)] []) (hK201 : ∀ (x2 : Int32) (z : DS) (x3 : Int32) (x4 : Int32) (x5 : Int32) (x6 : Int32) (x7 : Int32) (x8 : Int32) (x9 : Int32) (w : va_W), K65_201 x2 z x3 x4 x5 x6 x7 x8 x9 → DK cy q_p0 z w → vV p l e room_1 s m #[Value.ref b] below meth c (lw_Z below #[Value.ref b] s) 14 D (fun q : Nat => s.heap.size ≤ q) cm sm w 201 [(0, .ref b), (1, .ref q_p0), (2, .int x2), (3, .int x3), (4, .int x4), (5, .int x5), (6, .int x6), (7, .int x7), (8, .int x8), (9, .int x9)] []) (hK309 : ∀ (x2 : Int32) (z : DS) (x3 : Int32) (x4 : Int32) (x5 : Int32) (x6 : Int32) (x7 : Int32) (x8 : Int32) (x9 : Int32) (x10 : Int32) (x11 : Int32) (w : va_W), K65_309 x2 z x3 x4 x5 x6 x7 x8 x9 x10 x11 → DK cy q_p0 z w → vV p l e room_1 s m #[Value.ref b] below meth c (lw_Z below #[Value.ref b] s) 14 D (fun q : Nat => s.heap.size ≤ q) cm sm w 309 [(0, .ref b), (1, .ref q_p0), (2, .int x2), (3, .int x3), (4, .int x4), (5, .int x5), (6, .int x6), (7, .int x7), (8, .int x8), (9, .int x9), (10, .int x10), (11, .int x11)] []) (hK469 : ∀ (x2 : Int32) (z : DS) (x3 : Int32) (x4 : Int32) (x5 : Int32) (x6 : Int32) (x7 : Int32) (x8 : Int32) (x9 : Int32) (x10 : Int32) (x11 : Int32) (w : va_W), K65_469 x2 z x3 x4 x5 x6 x7 x8 x9 x10 x11 → DK cy q_p0 z w → vV p l e room_1 s m #[Value.ref b] below meth c (lw_Z below #[Value.ref b] s) 14 D (fun q : Nat => s.heap.size ≤ q) cm sm w 469 [(0, .ref b), (1, .ref q_p0), (2, .int x2), (3, .int x3), (4, .int x4), (5, .int x5), (6, .int x6), (7, .int x7), (8, .int x8), (9, .int x9), (10, .int x10), (11, .int x11)] []) (hK570 : ∀ (x2 : Int32) (z : DS) (x3 : Int32) (x4 : Int32) (x5 : Int32) (x6 : Int32) (x7 : Int32) (x8 : Int32) (x9 : Int32) (x10 : Int32) (w : va_W), K65_570 x2 z x3 x4 x5 x6 x7 x8 x9 x10 → DK cy q_p0 z w → vV p l e room_1 s m #[Value.ref b] below meth c (lw_Z below #[Value.ref b] s) 14 D (fun q : Nat => s.heap.size ≤ q) cm sm w 570 [(0, .ref b), (1, .ref q_p0), (2, .int x2), (3, .int x3), (4, .int x4), (5, .int x5), (6, .int x6), (7, .int x7), (8, .int x8), (9, .int x9), (10, .int x10)] []) (hK714 : ∀ (x2 : Int32) (z : DS) (x3 : Int32) (x4 : Int32) (x5 : Int32) (x6 : Int32) (x7 : Int32) (x8 : Int32) (x9 : Int32) (x10 : Int32) (x11 : Int32) (x12 : Int32) (x13 : Int32) (w : va_W), K65_714 x2 z x3 x4 x5 x6 x7 x8 x9 x10 x11 x12 x13 → DK cy q_p0 z w → vV p l e room_1 s m #[Value.ref b] below meth c (lw_Z below #[Value.ref b] s) 14 D (fun q : Nat => s.heap.size ≤ q) cm sm w 714 [(0, .ref b), (1, .ref q_p0), (2, .int x2), (3, .int x3), (4, .int x4), (5, .int x5), (6, .int x6), (7, .int x7), (8, .int x8), (9, .int x9), (10, .int x10), (11, .int x11), (12, .int x12), (13, .int x13)] []) (hK824 : ∀ (x2 : Int32) (z : DS) (x3 : Int32) (x4 : Int32) (x5 : Int32) (x6 : Int32) (x7 : Int32) (x8 : Int32) (x9 : Int32) (x10 : Int32) (w : va_W), K65_824 x2 z x3 x4 x5 x6 x7 x8 x9 x10 → DK cy q_p0 z w → vV p l e room_1 s m #[Value.ref b] below meth c (lw_Z below #[Value.ref b] s) 14 D (fun q : Nat => s.heap.size ≤ q) cm sm w 824 [(0, .ref b), (1, .ref q_p0), (2, .int x2), (3, .int x3), (4, .int x4), (5, .int x5), (6, .int x6), (7, .int x7), (8, .int x8), (9, .int x9), (10, .int x10)] []) (hK838 : ∀ (x2 : Int32) (z : DS) (x3 : Int32) (x4 : Int32) (x5 : Int32) (x6 : Int32) (x7 : Int32) (x8 : Int32) (x9 : Int32) (w : va_W), K65_838 x2 z x3 x4 x5 x6 x7 x8 x9 → DK cy q_p0 z w → vV p l e room_1 s m #[Value.ref b] below meth c (lw_Z below #[Value.ref b] s) 14 D (fun q : Nat => s.heap.size ≤ q) cm sm w 838 [(0, .ref b), (1, .ref q_p0), (2, .int x2), (3, .int x3), (4, .int x4), (5, .int x5), (6, .int x6), (7, .int x7), (8, .int x8), (9, .int x9)] []) (hK888 : ∀ (x2 : Int32) (z : DS) (x3 : Int32) (x4 : Int32) (x5 : Int32) (x6 : Int32) (x7 : Int32) (x8 : Int32) (x9 : Int32) (w : va_W), K65_888 x2 z x3 x4 x5 x6 x7 x8 x9 → DK cy q_p0 z w → vV p l e room_1 s m #[Value.ref b] below meth c (lw_Z below #[Value.ref b] s) 14 D (fun q : Nat => s.heap.size ≤ q) cm sm w 888 [(0, .ref b), (1, .ref q_p0), (2, .int x2), (3, .int x3), (4, .int x4), (5, .int x5), (6, .int x6), (7, .int x7), (8, .int x8), (9, .int x9)] []) (hK896 : ∀ (x2 : Int32) (z : DS) (w : va_W), K65_896 x2 z → DK cy q_p0 z w → vV p l e room_1 s m #[Value.ref b] below meth c (lw_Z below #[Value.ref b] s) 14 D (fun q : Nat => s.heap.size ≤ q) cm sm w 896 [(0, .ref b), (1, .ref q_p0), (2, .int x2)] []) : ∀ (n c9 s9 : Nat), c9 + n * 3991 ≤ cm → s9 + n * 23946 ≤ sm → ∀ (x2 : Int32) (z : DS) (w : va_W), p_L_law_65 L xs K65_179 K65_201 K65_309 K65_469 K65_570 K65_714 K65_824 K65_838 K65_888 K65_896 n x2 z → DK cy q_p0 z w → vV p l e room_1 s m #[Value.ref b] below meth c (lw_Z below #[Value.ref b] s) 14 D (fun q : Nat => s.heap.size ≤ q) c9 s9 w 65 [(0, .ref b), (1, .ref q_p0), (2, .int x2)] [] := by
  have hbA : ¬ (fun q : Nat => s.heap.size ≤ q) b := Nat.not_le.mpr hbl
  intro n
  induction n with
  | zero => intro c9 s9 hc9 hs9 x2 z w h; exact False.elim h
  | succ n ih =>
    intro c9 s9 hc9 hs9 x2 z w h hdk
    unfold p_L_law_65 at h
    refine v_iload_n cx dL_law_65 rfl 2 rfl ?_
    refine v_bipush (v := 30) cx dL_law_66 (by decide) ?_
    refine v_icmp_ge (tgt := 896) cx dL_law_68 (by decide) h (fun h => ?_) (fun h => ?_)
    · refine v_lv (lv' := [(0, .ref b), (1, .ref q_p0), (2, .int x2)]) [0, 1, 2] rfl ?_
      refine v_widen (k9 := cm) (n9 := sm) (ob2 (c := c9) (d := 0) hc9 rfl) (ob2 (c := s9) (d := 0) hs9 rfl) ?_
      exact hK896 _ _ _ h hdk
    · refine v_aload_n cx dL_law_71 rfl 0 rfl ?_
      refine v_iconst (v := 2) cx dL_law_72 (by decide) ?_
      refine v_iload_n cx dL_law_73 rfl 2 rfl ?_
      refine v_imul cx dL_law_74 ?_
      refine a_lot cx hX hbl hbA (by decide) ⟨(ob1 (c := c9) (d := 0) hc9 hcm rfl), (ob1 (c := s9) (d := 0) hs9 hsm rfl)⟩ (Nat.le_of_ble_eq_true rfl) dL_law_75 h.1 ?_
      have h := h.2
      refine v_istore_n (lv' := [(3, .int (lotW xs L ((2 : Int32) * x2) : Int32)), (0, .ref b), (1, .ref q_p0), (2, .int x2)]) cx dL_law_78 rfl (by decide) rfl ?_
      refine v_aload_n cx dL_law_79 rfl 1 rfl ?_
      refine v_iconst (v := 2) cx dL_law_80 (by decide) ?_
      refine v_iload_n cx dL_law_81 rfl 3 rfl ?_
      refine v_imul cx dL_law_82 ?_
      refine v_iconst (v := 1) cx dL_law_83 (by decide) ?_
      refine v_iadd cx dL_law_84 ?_
      refine a_lot cx hX hbl hbA (by decide) ⟨(ob1 (c := c9) (d := 0) hc9 hcm rfl), (ob1 (c := s9) (d := 0) hs9 hsm rfl)⟩ (Nat.le_of_ble_eq_true rfl) dL_law_85 h.1 ?_
      have h := h.2
      refine v_istore (lv' := [(4, .int (lotW xs L (((2 : Int32) * x2) + (1 : Int32)) : Int32)), (3, .int (lotW xs L ((2 : Int32) * x2) : Int32)), (0, .ref b), (1, .ref q_p0), (2, .int x2)]) cx dL_law_88 (by decide) rfl ?_
      refine v_aload_n cx dL_law_90 rfl 3 rfl ?_
      refine v_iconst (v := 0) cx dL_law_91 (by decide) ?_
      refine a_whole cx hl (by decide) ⟨(ob1 (c := c9) (d := 1) hc9 hcm rfl), (ob1 (c := s9) (d := 6) hs9 hsm rfl)⟩ (Nat.le_of_ble_eq_true rfl) dL_law_92 hdk (fun w hdk => ?_)
      refine v_istore (lv' := [(5, .int (q_whole z (0 : Int32) : Int32)), (4, .int (lotW xs L (((2 : Int32) * x2) + (1 : Int32)) : Int32)), (3, .int (lotW xs L ((2 : Int32) * x2) : Int32)), (0, .ref b), (1, .ref q_p0), (2, .int x2)]) cx dL_law_95 (by decide) rfl ?_
      refine v_iload_n cx dL_law_97 rfl 5 rfl ?_
      refine v_iconst (v := 5) cx dL_law_98 (by decide) ?_
      have hj122 : ∀ (y_12 : Int32) (w : va_W), p_L_law_j122 z xs L x2 K65_888 (p_L_law_65 L xs K65_179 K65_201 K65_309 K65_469 K65_570 K65_714 K65_824 K65_838 K65_888 K65_896 n) K65_838 K65_824 K65_714 K65_570 K65_469 K65_309 K65_201 K65_179 y_12 → DK cy q_p0 z w → vV p l e room_1 s m #[Value.ref b] below meth c (lw_Z below #[Value.ref b] s) 14 D (fun q : Nat => s.heap.size ≤ q) (c9 + 1) (s9 + 6) w 122 [(0, .ref b), (1, .ref q_p0), (2, .int x2), (3, .int (lotW xs L ((2 : Int32) * x2) : Int32)), (4, .int (lotW xs L (((2 : Int32) * x2) + (1 : Int32)) : Int32)), (5, .int (q_whole z (0 : Int32) : Int32))] [.int y_12] := by
        intro y_12 w h hdk
        unfold p_L_law_j122 at h
        refine v_istore (lv' := [(6, .int y_12), (0, .ref b), (1, .ref q_p0), (2, .int x2), (3, .int (lotW xs L ((2 : Int32) * x2) : Int32)), (4, .int (lotW xs L (((2 : Int32) * x2) + (1 : Int32)) : Int32)), (5, .int (q_whole z (0 : Int32) : Int32))]) cx dL_law_122 (by decide) rfl ?_
        refine v_iload cx dL_law_124 6 rfl ?_
        have hj141 : ∀ (y_13 : Int32) (w : va_W), p_L_law_j141 y_12 z xs L x2 K65_888 (p_L_law_65 L xs K65_179 K65_201 K65_309 K65_469 K65_570 K65_714 K65_824 K65_838 K65_888 K65_896 n) K65_838 K65_824 K65_714 K65_570 K65_469 K65_309 K65_201 K65_179 y_13 → DK cy q_p0 z w → vV p l e room_1 s m #[Value.ref b] below meth c (lw_Z below #[Value.ref b] s) 14 D (fun q : Nat => s.heap.size ≤ q) (c9 + 1) (s9 + 6) w 141 [(0, .ref b), (1, .ref q_p0), (2, .int x2), (3, .int (lotW xs L ((2 : Int32) * x2) : Int32)), (4, .int (lotW xs L (((2 : Int32) * x2) + (1 : Int32)) : Int32)), (5, .int (q_whole z (0 : Int32) : Int32)), (6, .int y_12)] [.int y_13] := by
          intro y_13 w h hdk
          unfold p_L_law_j141 at h
          refine v_istore (lv' := [(7, .int y_13), (0, .ref b), (1, .ref q_p0), (2, .int x2), (3, .int (lotW xs L ((2 : Int32) * x2) : Int32)), (4, .int (lotW xs L (((2 : Int32) * x2) + (1 : Int32)) : Int32)), (5, .int (q_whole z (0 : Int32) : Int32)), (6, .int y_12)]) cx dL_law_141 (by decide) rfl ?_
          refine v_iload cx dL_law_143 5 rfl ?_
          refine v_iconst (v := 2) cx dL_law_145 (by decide) ?_
          refine a_low cx (by decide) ⟨(ob1 (c := c9) (d := 1) hc9 hcm rfl), (ob1 (c := s9) (d := 6) hs9 hsm rfl)⟩ (Nat.le_of_ble_eq_true rfl) dL_law_146 (by decide) ?_
          refine v_istore (lv' := [(8, .int (lowW (lotW xs L (((2 : Int32) * x2) + (1 : Int32)) : Int32) (2 : Int32) : Int32)), (7, .int y_13), (0, .ref b), (1, .ref q_p0), (2, .int x2), (3, .int (lotW xs L ((2 : Int32) * x2) : Int32)), (4, .int (lotW xs L (((2 : Int32) * x2) + (1 : Int32)) : Int32)), (5, .int (q_whole z (0 : Int32) : Int32)), (6, .int y_12)]) cx dL_law_149 (by decide) rfl ?_
          refine v_iload cx dL_law_151 6 rfl ?_
          refine v_iconst (v := 1) cx dL_law_153 (by decide) ?_
          refine v_ishr cx dL_law_154 ?_
          refine v_iconst (v := 3) cx dL_law_155 (by decide) ?_
          refine a_low cx (by decide) ⟨(ob1 (c := c9) (d := 1) hc9 hcm rfl), (ob1 (c := s9) (d := 6) hs9 hsm rfl)⟩ (Nat.le_of_ble_eq_true rfl) dL_law_156 (by decide) ?_
          refine v_istore (lv' := [(9, .int (lowW ((lotW xs L (((2 : Int32) * x2) + (1 : Int32)) : Int32) >>> (1 &&& 31)) (3 : Int32) : Int32)), (8, .int (lowW (lotW xs L (((2 : Int32) * x2) + (1 : Int32)) : Int32) (2 : Int32) : Int32)), (7, .int y_13), (0, .ref b), (1, .ref q_p0), (2, .int x2), (3, .int (lotW xs L ((2 : Int32) * x2) : Int32)), (4, .int (lotW xs L (((2 : Int32) * x2) + (1 : Int32)) : Int32)), (5, .int (q_whole z (0 : Int32) : Int32)), (6, .int y_12)]) cx dL_law_159 (by decide) rfl ?_
          refine v_iload cx dL_law_161 9 rfl ?_
          refine v_iconst (v := 2) cx dL_law_163 (by decide) ?_
          have hj840 : ∀ (z_44 : DS) (w : va_W), p_L_law_j840 K65_888 x2 xs L z y_12 y_13 (p_L_law_65 L xs K65_179 K65_201 K65_309 K65_469 K65_570 K65_714 K65_824 K65_838 K65_888 K65_896 n) z_44 → DK cy q_p0 z_44 w → vV p l e room_1 s m #[Value.ref b] below meth c (lw_Z below #[Value.ref b] s) 14 D (fun q : Nat => s.heap.size ≤ q) (c9 + 96) (s9 + 576) w 840 [(0, .ref b), (1, .ref q_p0), (2, .int x2), (3, .int (lotW xs L ((2 : Int32) * x2) : Int32)), (4, .int (lotW xs L (((2 : Int32) * x2) + (1 : Int32)) : Int32)), (5, .int (q_whole z (0 : Int32) : Int32)), (6, .int y_12), (7, .int y_13), (8, .int (lowW (lotW xs L (((2 : Int32) * x2) + (1 : Int32)) : Int32) (2 : Int32) : Int32)), (9, .int (lowW ((lotW xs L (((2 : Int32) * x2) + (1 : Int32)) : Int32) >>> (1 &&& 31)) (3 : Int32) : Int32))] [] := by
            intro z_44 w h hdk
            unfold p_L_law_j840 at h
            refine v_aload_n cx dL_law_840 rfl 1 rfl ?_
            refine v_callSall2 (As := [.ref q_p0]) (mc := 724) (ms := 4344) cx (c_L_sound l hl g D cy hdk h) k_L_178 (by decide) ⟨rfl, rfl⟩ ⟨(ob1 (c := c9) (d := 820) hc9 hcm rfl), (ob1 (c := s9) (d := 4920) hs9 hsm rfl)⟩ rfl rfl (Nat.le_of_ble_eq_true rfl) dL_law_841 (fun v9 w hp => ?_)
            obtain ⟨r_45, rfl, hdk, h⟩ := hp
            refine v_st (st' := [.int r_45]) rfl ?_
            refine v_if_eq (tgt := 888) cx dL_law_844 (by decide) h (fun h => ?_) (fun h => ?_)
            · refine v_lv (lv' := [(0, .ref b), (1, .ref q_p0), (2, .int x2), (3, .int (lotW xs L ((2 : Int32) * x2) : Int32)), (4, .int (lotW xs L (((2 : Int32) * x2) + (1 : Int32)) : Int32)), (5, .int (q_whole z (0 : Int32) : Int32)), (6, .int y_12), (7, .int y_13), (8, .int (lowW (lotW xs L (((2 : Int32) * x2) + (1 : Int32)) : Int32) (2 : Int32) : Int32)), (9, .int (lowW ((lotW xs L (((2 : Int32) * x2) + (1 : Int32)) : Int32) >>> (1 &&& 31)) (3 : Int32) : Int32))]) [0, 1, 2, 3, 4, 5, 6, 7, 8, 9] rfl ?_
              refine v_widen (k9 := cm) (n9 := sm) (ob2 (c := c9) (d := 820) hc9 rfl) (ob2 (c := s9) (d := 4920) hs9 rfl) ?_
              exact hK888 _ _ _ _ _ _ _ _ _ _ h hdk
            · refine v_iload_n cx dL_law_847 rfl 2 rfl ?_
              refine v_iconst (v := 3) cx dL_law_848 (by decide) ?_
              refine v_irem cx dL_law_849 (by decide) ?_
              refine v_iconst (v := 2) cx dL_law_850 (by decide) ?_
              have hj868 : ∀ (w : va_W), p_L_law_j868 x2 (p_L_law_65 L xs K65_179 K65_201 K65_309 K65_469 K65_570 K65_714 K65_824 K65_838 K65_888 K65_896 n) z_44 xs L K65_888 z y_12 y_13 → DK cy q_p0 z_44 w → vV p l e room_1 s m #[Value.ref b] below meth c (lw_Z below #[Value.ref b] s) 14 D (fun q : Nat => s.heap.size ≤ q) (c9 + 3974) (s9 + 23844) w 868 [(0, .ref b), (1, .ref q_p0), (2, .int x2), (3, .int (lotW xs L ((2 : Int32) * x2) : Int32)), (4, .int (lotW xs L (((2 : Int32) * x2) + (1 : Int32)) : Int32)), (5, .int (q_whole z (0 : Int32) : Int32)), (6, .int y_12), (7, .int y_13), (8, .int (lowW (lotW xs L (((2 : Int32) * x2) + (1 : Int32)) : Int32) (2 : Int32) : Int32)), (9, .int (lowW ((lotW xs L (((2 : Int32) * x2) + (1 : Int32)) : Int32) >>> (1 &&& 31)) (3 : Int32) : Int32))] [] := by
                intro w h hdk
                unfold p_L_law_j868 at h
                refine v_iload_n cx dL_law_868 rfl 2 rfl ?_
                refine v_bipush (v := 10) cx dL_law_869 (by decide) ?_
                refine v_irem cx dL_law_871 (by decide) ?_
                refine v_bipush (v := 9) cx dL_law_872 (by decide) ?_
                refine v_icmp_ne (tgt := 890) cx dL_law_874 (by decide) h (fun h => ?_) (fun h => ?_)
                · refine v_iinc (v := x2 + 1) (k0 := 2) (lv' := [(2, .int (x2 + 1)), (0, .ref b), (1, .ref q_p0), (3, .int (lotW xs L ((2 : Int32) * x2) : Int32)), (4, .int (lotW xs L (((2 : Int32) * x2) + (1 : Int32)) : Int32)), (5, .int (q_whole z (0 : Int32) : Int32)), (6, .int y_12), (7, .int y_13), (8, .int (lowW (lotW xs L (((2 : Int32) * x2) + (1 : Int32)) : Int32) (2 : Int32) : Int32)), (9, .int (lowW ((lotW xs L (((2 : Int32) * x2) + (1 : Int32)) : Int32) >>> (1 &&& 31)) (3 : Int32) : Int32))]) cx dL_law_890 rfl rfl (by decide) rfl ?_
                  refine v_goto (tgt := 65) cx dL_law_893 (by decide) ?_
                  refine v_lv (lv' := [(0, .ref b), (1, .ref q_p0), (2, .int (x2 + 1))]) [1, 2, 0] rfl ?_
                  refine v_widen (k9 := (c9 + 3991)) (n9 := (s9 + 23946)) (ob3 (c := c9) (d := 3974) (e := 3991) rfl) (ob3 (c := s9) (d := 23844) (e := 23946) rfl) ?_
                  exact ih _ _ (ob4 hc9) (ob4 hs9) _ _ _ h hdk
                · refine v_aload_n cx dL_law_877 rfl 1 rfl ?_
                  refine v_iload cx dL_law_878 4 rfl ?_
                  refine v_iconst (v := 3) cx dL_law_880 (by decide) ?_
                  refine v_ishr cx dL_law_881 ?_
                  refine v_callSall2 (As := [.ref q_p0, .int ((lotW xs L (((2 : Int32) * x2) + (1 : Int32)) : Int32) >>> (3 &&& 31))]) (mc := 17) (ms := 102) cx (c_L_thoughts l hl g D cy hdk h) k_L_203 (by decide) ⟨rfl, rfl⟩ ⟨(ob1 (c := c9) (d := 3991) hc9 hcm rfl), (ob1 (c := s9) (d := 23946) hs9 hsm rfl)⟩ rfl rfl (Nat.le_of_ble_eq_true rfl) dL_law_882 (fun v9 w hp => ?_)
                  obtain ⟨r_48, z_49, rfl, hdk, h⟩ := hp
                  refine v_st (st' := [.int r_48]) rfl ?_
                  refine v_if_ne (tgt := 890) cx dL_law_885 (by decide) h (fun h => ?_) (fun h => ?_)
                  · refine v_iinc (v := x2 + 1) (k0 := 2) (lv' := [(2, .int (x2 + 1)), (0, .ref b), (1, .ref q_p0), (3, .int (lotW xs L ((2 : Int32) * x2) : Int32)), (4, .int (lotW xs L (((2 : Int32) * x2) + (1 : Int32)) : Int32)), (5, .int (q_whole z (0 : Int32) : Int32)), (6, .int y_12), (7, .int y_13), (8, .int (lowW (lotW xs L (((2 : Int32) * x2) + (1 : Int32)) : Int32) (2 : Int32) : Int32)), (9, .int (lowW ((lotW xs L (((2 : Int32) * x2) + (1 : Int32)) : Int32) >>> (1 &&& 31)) (3 : Int32) : Int32))]) cx dL_law_890 rfl rfl (by decide) rfl ?_
                    refine v_goto (tgt := 65) cx dL_law_893 (by decide) ?_
                    refine v_lv (lv' := [(0, .ref b), (1, .ref q_p0), (2, .int (x2 + 1))]) [1, 2, 0] rfl ?_
                    refine v_widen (k9 := (c9 + 3991)) (n9 := (s9 + 23946)) (ob3 (c := c9) (d := 3991) (e := 3991) rfl) (ob3 (c := s9) (d := 23946) (e := 23946) rfl) ?_
                    exact ih _ _ (ob4 hc9) (ob4 hs9) _ _ _ h hdk
                  · refine v_lv (lv' := [(0, .ref b), (1, .ref q_p0), (2, .int x2), (3, .int (lotW xs L ((2 : Int32) * x2) : Int32)), (4, .int (lotW xs L (((2 : Int32) * x2) + (1 : Int32)) : Int32)), (5, .int (q_whole z (0 : Int32) : Int32)), (6, .int y_12), (7, .int y_13), (8, .int (lowW (lotW xs L (((2 : Int32) * x2) + (1 : Int32)) : Int32) (2 : Int32) : Int32)), (9, .int (lowW ((lotW xs L (((2 : Int32) * x2) + (1 : Int32)) : Int32) >>> (1 &&& 31)) (3 : Int32) : Int32))]) [0, 1, 2, 3, 4, 5, 6, 7, 8, 9] rfl ?_
                    refine v_widen (k9 := cm) (n9 := sm) (ob2 (c := c9) (d := 3991) hc9 rfl) (ob2 (c := s9) (d := 23946) hs9 rfl) ?_
                    exact hK888 _ _ _ _ _ _ _ _ _ _ h hdk
              refine v_icmp_ne (tgt := 868) cx dL_law_851 (by decide) h (fun h => ?_) (fun h => ?_)
              · refine v_lv (lv' := [(0, .ref b), (1, .ref q_p0), (2, .int x2), (3, .int (lotW xs L ((2 : Int32) * x2) : Int32)), (4, .int (lotW xs L (((2 : Int32) * x2) + (1 : Int32)) : Int32)), (5, .int (q_whole z (0 : Int32) : Int32)), (6, .int y_12), (7, .int y_13), (8, .int (lowW (lotW xs L (((2 : Int32) * x2) + (1 : Int32)) : Int32) (2 : Int32) : Int32)), (9, .int (lowW ((lotW xs L (((2 : Int32) * x2) + (1 : Int32)) : Int32) >>> (1 &&& 31)) (3 : Int32) : Int32))]) [0, 1, 2, 3, 4, 5, 6, 7, 8, 9] rfl ?_
                refine v_widen (k9 := (c9 + 3974)) (n9 := (s9 + 23844)) (ob3 (c := c9) (d := 820) (e := 3974) rfl) (ob3 (c := s9) (d := 4920) (e := 23844) rfl) ?_
                exact hj868 _ h hdk
              · refine v_aload_n cx dL_law_854 rfl 1 rfl ?_
                refine v_callSall2 (As := [.ref q_p0]) (mc := 1933) (ms := 11598) cx (c_L_lists l hl g D cy hdk h) k_L_181 (by decide) ⟨rfl, rfl⟩ ⟨(ob1 (c := c9) (d := 2753) hc9 hcm rfl), (ob1 (c := s9) (d := 16518) hs9 hsm rfl)⟩ rfl rfl (Nat.le_of_ble_eq_true rfl) dL_law_855 (fun v9 w hp => ?_)
                obtain ⟨r_46, rfl, hdk, h⟩ := hp
                refine v_st (st' := [.int r_46]) rfl ?_
                refine v_if_eq (tgt := 888) cx dL_law_858 (by decide) h (fun h => ?_) (fun h => ?_)
                · refine v_lv (lv' := [(0, .ref b), (1, .ref q_p0), (2, .int x2), (3, .int (lotW xs L ((2 : Int32) * x2) : Int32)), (4, .int (lotW xs L (((2 : Int32) * x2) + (1 : Int32)) : Int32)), (5, .int (q_whole z (0 : Int32) : Int32)), (6, .int y_12), (7, .int y_13), (8, .int (lowW (lotW xs L (((2 : Int32) * x2) + (1 : Int32)) : Int32) (2 : Int32) : Int32)), (9, .int (lowW ((lotW xs L (((2 : Int32) * x2) + (1 : Int32)) : Int32) >>> (1 &&& 31)) (3 : Int32) : Int32))]) [0, 1, 2, 3, 4, 5, 6, 7, 8, 9] rfl ?_
                  refine v_widen (k9 := cm) (n9 := sm) (ob2 (c := c9) (d := 2753) hc9 rfl) (ob2 (c := s9) (d := 16518) hs9 rfl) ?_
                  exact hK888 _ _ _ _ _ _ _ _ _ _ h hdk
                · refine v_aload_n cx dL_law_861 rfl 1 rfl ?_
                  refine v_callSall2 (As := [.ref q_p0]) (mc := 1221) (ms := 7326) cx (c_L_listing l hl g D cy hdk h) k_L_184 (by decide) ⟨rfl, rfl⟩ ⟨(ob1 (c := c9) (d := 3974) hc9 hcm rfl), (ob1 (c := s9) (d := 23844) hs9 hsm rfl)⟩ rfl rfl (Nat.le_of_ble_eq_true rfl) dL_law_862 (fun v9 w hp => ?_)
                  obtain ⟨r_47, rfl, hdk, h⟩ := hp
                  refine v_st (st' := [.int r_47]) rfl ?_
                  refine v_if_eq (tgt := 888) cx dL_law_865 (by decide) h (fun h => ?_) (fun h => ?_)
                  · refine v_lv (lv' := [(0, .ref b), (1, .ref q_p0), (2, .int x2), (3, .int (lotW xs L ((2 : Int32) * x2) : Int32)), (4, .int (lotW xs L (((2 : Int32) * x2) + (1 : Int32)) : Int32)), (5, .int (q_whole z (0 : Int32) : Int32)), (6, .int y_12), (7, .int y_13), (8, .int (lowW (lotW xs L (((2 : Int32) * x2) + (1 : Int32)) : Int32) (2 : Int32) : Int32)), (9, .int (lowW ((lotW xs L (((2 : Int32) * x2) + (1 : Int32)) : Int32) >>> (1 &&& 31)) (3 : Int32) : Int32))]) [0, 1, 2, 3, 4, 5, 6, 7, 8, 9] rfl ?_
                    refine v_widen (k9 := cm) (n9 := sm) (ob2 (c := c9) (d := 3974) hc9 rfl) (ob2 (c := s9) (d := 23844) hs9 rfl) ?_
                    exact hK888 _ _ _ _ _ _ _ _ _ _ h hdk
                  · refine v_lv (lv' := [(0, .ref b), (1, .ref q_p0), (2, .int x2), (3, .int (lotW xs L ((2 : Int32) * x2) : Int32)), (4, .int (lotW xs L (((2 : Int32) * x2) + (1 : Int32)) : Int32)), (5, .int (q_whole z (0 : Int32) : Int32)), (6, .int y_12), (7, .int y_13), (8, .int (lowW (lotW xs L (((2 : Int32) * x2) + (1 : Int32)) : Int32) (2 : Int32) : Int32)), (9, .int (lowW ((lotW xs L (((2 : Int32) * x2) + (1 : Int32)) : Int32) >>> (1 &&& 31)) (3 : Int32) : Int32))]) [0, 1, 2, 3, 4, 5, 6, 7, 8, 9] rfl ?_
                    refine v_widen (k9 := (c9 + 3974)) (n9 := (s9 + 23844)) (ob3 (c := c9) (d := 3974) (e := 3974) rfl) (ob3 (c := s9) (d := 23844) (e := 23844) rfl) ?_
                    exact hj868 _ h hdk
          refine v_icmp_ge (tgt := 181) cx dL_law_164 (by decide) h (fun h => ?_) (fun h => ?_)
          · refine v_iload cx dL_law_181 9 rfl ?_
            refine v_iconst (v := 5) cx dL_law_183 (by decide) ?_
            refine v_icmp_ge (tgt := 203) cx dL_law_184 (by decide) h (fun h => ?_) (fun h => ?_)
            · refine v_iload cx dL_law_203 9 rfl ?_
              refine v_bipush (v := 7) cx dL_law_205 (by decide) ?_
              have hj314 : ∀ (w : va_W), p_L_law_j314 y_12 z xs L x2 K65_888 y_13 (p_L_law_65 L xs K65_179 K65_201 K65_309 K65_469 K65_570 K65_714 K65_824 K65_838 K65_888 K65_896 n) K65_838 K65_824 K65_714 K65_570 K65_469 → DK cy q_p0 z w → vV p l e room_1 s m #[Value.ref b] below meth c (lw_Z below #[Value.ref b] s) 14 D (fun q : Nat => s.heap.size ≤ q) (c9 + 1) (s9 + 6) w 314 [(0, .ref b), (1, .ref q_p0), (2, .int x2), (3, .int (lotW xs L ((2 : Int32) * x2) : Int32)), (4, .int (lotW xs L (((2 : Int32) * x2) + (1 : Int32)) : Int32)), (5, .int (q_whole z (0 : Int32) : Int32)), (6, .int y_12), (7, .int y_13), (8, .int (lowW (lotW xs L (((2 : Int32) * x2) + (1 : Int32)) : Int32) (2 : Int32) : Int32)), (9, .int (lowW ((lotW xs L (((2 : Int32) * x2) + (1 : Int32)) : Int32) >>> (1 &&& 31)) (3 : Int32) : Int32))] [] := by
                intro w h hdk
                unfold p_L_law_j314 at h
                refine v_iload cx dL_law_314 6 rfl ?_
                refine v_bipush (v := 7) cx dL_law_316 (by decide) ?_
                refine v_icmp_ne (tgt := 474) cx dL_law_318 (by decide) h (fun h => ?_) (fun h => ?_)
                · refine v_iload cx dL_law_474 6 rfl ?_
                  refine v_bipush (v := 8) cx dL_law_476 (by decide) ?_
                  have hj575 : ∀ (w : va_W), p_L_law_j575 y_12 z xs L x2 K65_888 y_13 (p_L_law_65 L xs K65_179 K65_201 K65_309 K65_469 K65_570 K65_714 K65_824 K65_838 K65_888 K65_896 n) K65_838 K65_824 K65_714 → DK cy q_p0 z w → vV p l e room_1 s m #[Value.ref b] below meth c (lw_Z below #[Value.ref b] s) 14 D (fun q : Nat => s.heap.size ≤ q) (c9 + 1) (s9 + 6) w 575 [(0, .ref b), (1, .ref q_p0), (2, .int x2), (3, .int (lotW xs L ((2 : Int32) * x2) : Int32)), (4, .int (lotW xs L (((2 : Int32) * x2) + (1 : Int32)) : Int32)), (5, .int (q_whole z (0 : Int32) : Int32)), (6, .int y_12), (7, .int y_13), (8, .int (lowW (lotW xs L (((2 : Int32) * x2) + (1 : Int32)) : Int32) (2 : Int32) : Int32)), (9, .int (lowW ((lotW xs L (((2 : Int32) * x2) + (1 : Int32)) : Int32) >>> (1 &&& 31)) (3 : Int32) : Int32))] [] := by
                    intro w h hdk
                    unfold p_L_law_j575 at h
                    refine v_iload cx dL_law_575 6 rfl ?_
                    refine v_bipush (v := 9) cx dL_law_577 (by decide) ?_
                    refine v_icmp_ne (tgt := 719) cx dL_law_579 (by decide) h (fun h => ?_) (fun h => ?_)
                    · refine v_iload cx dL_law_719 6 rfl ?_
                      refine v_bipush (v := 10) cx dL_law_721 (by decide) ?_
                      refine v_icmp_ne (tgt := 829) cx dL_law_723 (by decide) h (fun h => ?_) (fun h => ?_)
                      · refine v_aload_n cx dL_law_829 rfl 1 rfl ?_
                        refine v_iload cx dL_law_830 4 rfl ?_
                        refine v_callSall2 (As := [.ref q_p0, .int (lotW xs L (((2 : Int32) * x2) + (1 : Int32)) : Int32)]) (mc := 17) (ms := 102) cx (c_L_thoughts l hl g D cy hdk h) k_L_203 (by decide) ⟨rfl, rfl⟩ ⟨(ob1 (c := c9) (d := 18) hc9 hcm rfl), (ob1 (c := s9) (d := 108) hs9 hsm rfl)⟩ rfl rfl (Nat.le_of_ble_eq_true rfl) dL_law_832 (fun v9 w hp => ?_)
                        obtain ⟨r_24, z_25, rfl, hdk, h⟩ := hp
                        refine v_st (st' := [.int r_24]) rfl ?_
                        refine v_if_ne (tgt := 840) cx dL_law_835 (by decide) h (fun h => ?_) (fun h => ?_)
                        · refine v_lv (lv' := [(0, .ref b), (1, .ref q_p0), (2, .int x2), (3, .int (lotW xs L ((2 : Int32) * x2) : Int32)), (4, .int (lotW xs L (((2 : Int32) * x2) + (1 : Int32)) : Int32)), (5, .int (q_whole z (0 : Int32) : Int32)), (6, .int y_12), (7, .int y_13), (8, .int (lowW (lotW xs L (((2 : Int32) * x2) + (1 : Int32)) : Int32) (2 : Int32) : Int32)), (9, .int (lowW ((lotW xs L (((2 : Int32) * x2) + (1 : Int32)) : Int32) >>> (1 &&& 31)) (3 : Int32) : Int32))]) [0, 1, 2, 3, 4, 5, 6, 7, 8, 9] rfl ?_
                          refine v_widen (k9 := (c9 + 96)) (n9 := (s9 + 576)) (ob3 (c := c9) (d := 18) (e := 96) rfl) (ob3 (c := s9) (d := 108) (e := 576) rfl) ?_
                          exact hj840 z_25 _ h hdk
                        · refine v_lv (lv' := [(0, .ref b), (1, .ref q_p0), (2, .int x2), (3, .int (lotW xs L ((2 : Int32) * x2) : Int32)), (4, .int (lotW xs L (((2 : Int32) * x2) + (1 : Int32)) : Int32)), (5, .int (q_whole z (0 : Int32) : Int32)), (6, .int y_12), (7, .int y_13), (8, .int (lowW (lotW xs L (((2 : Int32) * x2) + (1 : Int32)) : Int32) (2 : Int32) : Int32)), (9, .int (lowW ((lotW xs L (((2 : Int32) * x2) + (1 : Int32)) : Int32) >>> (1 &&& 31)) (3 : Int32) : Int32))]) [0, 1, 2, 3, 4, 5, 6, 7, 8, 9] rfl ?_
                          refine v_widen (k9 := cm) (n9 := sm) (ob2 (c := c9) (d := 18) hc9 rfl) (ob2 (c := s9) (d := 108) hs9 rfl) ?_
                          exact hK838 _ _ _ _ _ _ _ _ _ _ h hdk
                      · refine v_bipush (v := 100) cx dL_law_726 (by decide) ?_
                        refine v_aload_n cx dL_law_728 rfl 1 rfl ?_
                        refine v_bipush (v := 7) cx dL_law_729 (by decide) ?_
                        refine a_whole cx hl (by decide) ⟨(ob1 (c := c9) (d := 2) hc9 hcm rfl), (ob1 (c := s9) (d := 12) hs9 hsm rfl)⟩ (Nat.le_of_ble_eq_true rfl) dL_law_731 hdk (fun w hdk => ?_)
                        refine v_imul cx dL_law_734 ?_
                        refine v_bipush (v := 10) cx dL_law_735 (by decide) ?_
                        refine v_aload_n cx dL_law_737 rfl 1 rfl ?_
                        refine v_bipush (v := 8) cx dL_law_738 (by decide) ?_
                        refine a_whole cx hl (by decide) ⟨(ob1 (c := c9) (d := 3) hc9 hcm rfl), (ob1 (c := s9) (d := 18) hs9 hsm rfl)⟩ (Nat.le_of_ble_eq_true rfl) dL_law_740 hdk (fun w hdk => ?_)
                        refine v_imul cx dL_law_743 ?_
                        refine v_iadd cx dL_law_744 ?_
                        refine v_aload_n cx dL_law_745 rfl 1 rfl ?_
                        refine v_bipush (v := 9) cx dL_law_746 (by decide) ?_
                        refine a_whole cx hl (by decide) ⟨(ob1 (c := c9) (d := 4) hc9 hcm rfl), (ob1 (c := s9) (d := 24) hs9 hsm rfl)⟩ (Nat.le_of_ble_eq_true rfl) dL_law_748 hdk (fun w hdk => ?_)
                        refine v_iadd cx dL_law_751 ?_
                        refine v_istore (lv' := [(10, .int ((((100 : Int32) * (q_whole z (7 : Int32) : Int32)) + ((10 : Int32) * (q_whole z (8 : Int32) : Int32))) + (q_whole z (9 : Int32) : Int32))), (0, .ref b), (1, .ref q_p0), (2, .int x2), (3, .int (lotW xs L ((2 : Int32) * x2) : Int32)), (4, .int (lotW xs L (((2 : Int32) * x2) + (1 : Int32)) : Int32)), (5, .int (q_whole z (0 : Int32) : Int32)), (6, .int y_12), (7, .int y_13), (8, .int (lowW (lotW xs L (((2 : Int32) * x2) + (1 : Int32)) : Int32) (2 : Int32) : Int32)), (9, .int (lowW ((lotW xs L (((2 : Int32) * x2) + (1 : Int32)) : Int32) >>> (1 &&& 31)) (3 : Int32) : Int32))]) cx dL_law_752 (by decide) rfl ?_
                        refine v_aload_n cx dL_law_754 rfl 2 rfl ?_
                        refine v_iload cx dL_law_755 5 rfl ?_
                        refine v_bipush (v := 6) cx dL_law_757 (by decide) ?_
                        refine a_low cx (by decide) ⟨(ob1 (c := c9) (d := 4) hc9 hcm rfl), (ob1 (c := s9) (d := 24) hs9 hsm rfl)⟩ (Nat.le_of_ble_eq_true rfl) dL_law_759 (by decide) ?_
                        refine v_iload cx dL_law_762 5 rfl ?_
                        refine v_iconst (v := 3) cx dL_law_764 (by decide) ?_
                        refine v_ishr cx dL_law_765 ?_
                        refine v_bipush (v := 6) cx dL_law_766 (by decide) ?_
                        refine a_low cx (by decide) ⟨(ob1 (c := c9) (d := 4) hc9 hcm rfl), (ob1 (c := s9) (d := 24) hs9 hsm rfl)⟩ (Nat.le_of_ble_eq_true rfl) dL_law_768 (by decide) ?_
                        refine v_iload cx dL_law_771 5 rfl ?_
                        refine v_bipush (v := 6) cx dL_law_773 (by decide) ?_
                        refine v_ishr cx dL_law_775 ?_
                        refine v_bipush (v := 6) cx dL_law_776 (by decide) ?_
                        refine a_low cx (by decide) ⟨(ob1 (c := c9) (d := 4) hc9 hcm rfl), (ob1 (c := s9) (d := 24) hs9 hsm rfl)⟩ (Nat.le_of_ble_eq_true rfl) dL_law_778 (by decide) ?_
                        refine a_setTies cx hl (by decide) ⟨(ob1 (c := c9) (d := 5) hc9 hcm rfl), (ob1 (c := s9) (d := 30) hs9 hsm rfl)⟩ (Nat.le_of_ble_eq_true rfl) dL_law_781 hdk (fun r_26 z_27 w hS hI hdk => ?_)
                        have h := h r_26 z_27 hS hI
                        refine v_iload cx dL_law_784 0 rfl ?_
                        refine v_icmp_ne (tgt := 824) cx dL_law_786 (by decide) h (fun h => ?_) (fun h => ?_)
                        · refine v_lv (lv' := [(0, .ref b), (1, .ref q_p0), (2, .int x2), (3, .int (lotW xs L ((2 : Int32) * x2) : Int32)), (4, .int (lotW xs L (((2 : Int32) * x2) + (1 : Int32)) : Int32)), (5, .int (q_whole z (0 : Int32) : Int32)), (6, .int y_12), (7, .int y_13), (8, .int (lowW (lotW xs L (((2 : Int32) * x2) + (1 : Int32)) : Int32) (2 : Int32) : Int32)), (9, .int (lowW ((lotW xs L (((2 : Int32) * x2) + (1 : Int32)) : Int32) >>> (1 &&& 31)) (3 : Int32) : Int32)), (10, .int ((((100 : Int32) * (q_whole z (7 : Int32) : Int32)) + ((10 : Int32) * (q_whole z (8 : Int32) : Int32))) + (q_whole z (9 : Int32) : Int32)))]) [1, 2, 3, 4, 5, 6, 7, 8, 9, 10, 0] rfl ?_
                          refine v_widen (k9 := cm) (n9 := sm) (ob2 (c := c9) (d := 5) hc9 rfl) (ob2 (c := s9) (d := 30) hs9 rfl) ?_
                          exact hK824 _ _ _ _ _ _ _ _ _ _ _ h hdk
                        · refine v_aload_n cx dL_law_789 rfl 2 rfl ?_
                          refine v_bipush (v := 7) cx dL_law_790 (by decide) ?_
                          refine a_whole cx hl (by decide) ⟨(ob1 (c := c9) (d := 6) hc9 hcm rfl), (ob1 (c := s9) (d := 36) hs9 hsm rfl)⟩ (Nat.le_of_ble_eq_true rfl) dL_law_792 hdk (fun w hdk => ?_)
                          refine v_iload cx dL_law_795 5 rfl ?_
                          refine v_bipush (v := 6) cx dL_law_797 (by decide) ?_
                          refine a_low cx (by decide) ⟨(ob1 (c := c9) (d := 6) hc9 hcm rfl), (ob1 (c := s9) (d := 36) hs9 hsm rfl)⟩ (Nat.le_of_ble_eq_true rfl) dL_law_799 (by decide) ?_
                          refine v_icmp_ne (tgt := 824) cx dL_law_802 (by decide) h (fun h => ?_) (fun h => ?_)
                          · refine v_lv (lv' := [(0, .ref b), (1, .ref q_p0), (2, .int x2), (3, .int (lotW xs L ((2 : Int32) * x2) : Int32)), (4, .int (lotW xs L (((2 : Int32) * x2) + (1 : Int32)) : Int32)), (5, .int (q_whole z (0 : Int32) : Int32)), (6, .int y_12), (7, .int y_13), (8, .int (lowW (lotW xs L (((2 : Int32) * x2) + (1 : Int32)) : Int32) (2 : Int32) : Int32)), (9, .int (lowW ((lotW xs L (((2 : Int32) * x2) + (1 : Int32)) : Int32) >>> (1 &&& 31)) (3 : Int32) : Int32)), (10, .int ((((100 : Int32) * (q_whole z (7 : Int32) : Int32)) + ((10 : Int32) * (q_whole z (8 : Int32) : Int32))) + (q_whole z (9 : Int32) : Int32)))]) [1, 2, 3, 4, 5, 6, 7, 8, 9, 10, 0] rfl ?_
                            refine v_widen (k9 := cm) (n9 := sm) (ob2 (c := c9) (d := 6) hc9 rfl) (ob2 (c := s9) (d := 36) hs9 rfl) ?_
                            exact hK824 _ _ _ _ _ _ _ _ _ _ _ h hdk
                          · refine v_aload_n cx dL_law_805 rfl 2 rfl ?_
                            refine v_bipush (v := 9) cx dL_law_806 (by decide) ?_
                            refine a_whole cx hl (by decide) ⟨(ob1 (c := c9) (d := 7) hc9 hcm rfl), (ob1 (c := s9) (d := 42) hs9 hsm rfl)⟩ (Nat.le_of_ble_eq_true rfl) dL_law_808 hdk (fun w hdk => ?_)
                            refine v_iload cx dL_law_811 5 rfl ?_
                            refine v_bipush (v := 6) cx dL_law_813 (by decide) ?_
                            refine v_ishr cx dL_law_815 ?_
                            refine v_bipush (v := 6) cx dL_law_816 (by decide) ?_
                            refine a_low cx (by decide) ⟨(ob1 (c := c9) (d := 7) hc9 hcm rfl), (ob1 (c := s9) (d := 42) hs9 hsm rfl)⟩ (Nat.le_of_ble_eq_true rfl) dL_law_818 (by decide) ?_
                            refine v_icmp_eq (tgt := 826) cx dL_law_821 (by decide) h (fun h => ?_) (fun h => ?_)
                            · refine v_goto (tgt := 840) cx dL_law_826 (by decide) ?_
                              refine v_lv (lv' := [(0, .ref b), (1, .ref q_p0), (2, .int x2), (3, .int (lotW xs L ((2 : Int32) * x2) : Int32)), (4, .int (lotW xs L (((2 : Int32) * x2) + (1 : Int32)) : Int32)), (5, .int (q_whole z (0 : Int32) : Int32)), (6, .int y_12), (7, .int y_13), (8, .int (lowW (lotW xs L (((2 : Int32) * x2) + (1 : Int32)) : Int32) (2 : Int32) : Int32)), (9, .int (lowW ((lotW xs L (((2 : Int32) * x2) + (1 : Int32)) : Int32) >>> (1 &&& 31)) (3 : Int32) : Int32))]) [1, 2, 3, 4, 5, 6, 7, 8, 9, 10] rfl ?_
                              refine v_widen (k9 := (c9 + 96)) (n9 := (s9 + 576)) (ob3 (c := c9) (d := 7) (e := 96) rfl) (ob3 (c := s9) (d := 42) (e := 576) rfl) ?_
                              exact hj840 z_27 _ h hdk
                            · refine v_lv (lv' := [(0, .ref b), (1, .ref q_p0), (2, .int x2), (3, .int (lotW xs L ((2 : Int32) * x2) : Int32)), (4, .int (lotW xs L (((2 : Int32) * x2) + (1 : Int32)) : Int32)), (5, .int (q_whole z (0 : Int32) : Int32)), (6, .int y_12), (7, .int y_13), (8, .int (lowW (lotW xs L (((2 : Int32) * x2) + (1 : Int32)) : Int32) (2 : Int32) : Int32)), (9, .int (lowW ((lotW xs L (((2 : Int32) * x2) + (1 : Int32)) : Int32) >>> (1 &&& 31)) (3 : Int32) : Int32)), (10, .int ((((100 : Int32) * (q_whole z (7 : Int32) : Int32)) + ((10 : Int32) * (q_whole z (8 : Int32) : Int32))) + (q_whole z (9 : Int32) : Int32)))]) [1, 2, 3, 4, 5, 6, 7, 8, 9, 10, 0] rfl ?_
                              refine v_widen (k9 := cm) (n9 := sm) (ob2 (c := c9) (d := 7) hc9 rfl) (ob2 (c := s9) (d := 42) hs9 rfl) ?_
                              exact hK824 _ _ _ _ _ _ _ _ _ _ _ h hdk
                    · refine v_aload_n cx dL_law_582 rfl 1 rfl ?_
                      refine v_iconst (v := 5) cx dL_law_583 (by decide) ?_
                      refine a_whole cx hl (by decide) ⟨(ob1 (c := c9) (d := 2) hc9 hcm rfl), (ob1 (c := s9) (d := 12) hs9 hsm rfl)⟩ (Nat.le_of_ble_eq_true rfl) dL_law_584 hdk (fun w hdk => ?_)
                      refine v_istore (lv' := [(10, .int (q_whole z (5 : Int32) : Int32)), (0, .ref b), (1, .ref q_p0), (2, .int x2), (3, .int (lotW xs L ((2 : Int32) * x2) : Int32)), (4, .int (lotW xs L (((2 : Int32) * x2) + (1 : Int32)) : Int32)), (5, .int (q_whole z (0 : Int32) : Int32)), (6, .int y_12), (7, .int y_13), (8, .int (lowW (lotW xs L (((2 : Int32) * x2) + (1 : Int32)) : Int32) (2 : Int32) : Int32)), (9, .int (lowW ((lotW xs L (((2 : Int32) * x2) + (1 : Int32)) : Int32) >>> (1 &&& 31)) (3 : Int32) : Int32))]) cx dL_law_587 (by decide) rfl ?_
                      refine v_aload_n cx dL_law_589 rfl 2 rfl ?_
                      refine v_iconst (v := 0) cx dL_law_590 (by decide) ?_
                      refine a_servedFor cx hl (by decide) ⟨(ob1 (c := c9) (d := 3) hc9 hcm rfl), (ob1 (c := s9) (d := 18) hs9 hsm rfl)⟩ (Nat.le_of_ble_eq_true rfl) dL_law_591 hdk (fun w hdk => ?_)
                      refine v_istore (lv' := [(11, .int (q_servedFor z (0 : Int32) : Int32)), (10, .int (q_whole z (5 : Int32) : Int32)), (0, .ref b), (1, .ref q_p0), (2, .int x2), (3, .int (lotW xs L ((2 : Int32) * x2) : Int32)), (4, .int (lotW xs L (((2 : Int32) * x2) + (1 : Int32)) : Int32)), (5, .int (q_whole z (0 : Int32) : Int32)), (6, .int y_12), (7, .int y_13), (8, .int (lowW (lotW xs L (((2 : Int32) * x2) + (1 : Int32)) : Int32) (2 : Int32) : Int32)), (9, .int (lowW ((lotW xs L (((2 : Int32) * x2) + (1 : Int32)) : Int32) >>> (1 &&& 31)) (3 : Int32) : Int32))]) cx dL_law_594 (by decide) rfl ?_
                      refine v_aload_n cx dL_law_596 rfl 3 rfl ?_
                      refine v_iconst (v := 1) cx dL_law_597 (by decide) ?_
                      refine a_servedFor cx hl (by decide) ⟨(ob1 (c := c9) (d := 4) hc9 hcm rfl), (ob1 (c := s9) (d := 24) hs9 hsm rfl)⟩ (Nat.le_of_ble_eq_true rfl) dL_law_598 hdk (fun w hdk => ?_)
                      refine v_istore (lv' := [(12, .int (q_servedFor z (1 : Int32) : Int32)), (11, .int (q_servedFor z (0 : Int32) : Int32)), (10, .int (q_whole z (5 : Int32) : Int32)), (0, .ref b), (1, .ref q_p0), (2, .int x2), (3, .int (lotW xs L ((2 : Int32) * x2) : Int32)), (4, .int (lotW xs L (((2 : Int32) * x2) + (1 : Int32)) : Int32)), (5, .int (q_whole z (0 : Int32) : Int32)), (6, .int y_12), (7, .int y_13), (8, .int (lowW (lotW xs L (((2 : Int32) * x2) + (1 : Int32)) : Int32) (2 : Int32) : Int32)), (9, .int (lowW ((lotW xs L (((2 : Int32) * x2) + (1 : Int32)) : Int32) >>> (1 &&& 31)) (3 : Int32) : Int32))]) cx dL_law_601 (by decide) rfl ?_
                      refine v_aload_n cx dL_law_603 rfl 4 rfl ?_
                      refine v_bipush (v := 7) cx dL_law_604 (by decide) ?_
                      refine a_whole cx hl (by decide) ⟨(ob1 (c := c9) (d := 5) hc9 hcm rfl), (ob1 (c := s9) (d := 30) hs9 hsm rfl)⟩ (Nat.le_of_ble_eq_true rfl) dL_law_606 hdk (fun w hdk => ?_)
                      refine v_iconst (v := 3) cx dL_law_609 (by decide) ?_
                      have hj668 : ∀ (y_28 : Int32) (w : va_W), p_L_law_j668 z K65_714 x2 xs L y_12 y_13 K65_888 (p_L_law_65 L xs K65_179 K65_201 K65_309 K65_469 K65_570 K65_714 K65_824 K65_838 K65_888 K65_896 n) y_28 → DK cy q_p0 z w → vV p l e room_1 s m #[Value.ref b] below meth c (lw_Z below #[Value.ref b] s) 14 D (fun q : Nat => s.heap.size ≤ q) (c9 + 10) (s9 + 60) w 668 [(0, .ref b), (1, .ref q_p0), (2, .int x2), (3, .int (lotW xs L ((2 : Int32) * x2) : Int32)), (4, .int (lotW xs L (((2 : Int32) * x2) + (1 : Int32)) : Int32)), (5, .int (q_whole z (0 : Int32) : Int32)), (6, .int y_12), (7, .int y_13), (8, .int (lowW (lotW xs L (((2 : Int32) * x2) + (1 : Int32)) : Int32) (2 : Int32) : Int32)), (9, .int (lowW ((lotW xs L (((2 : Int32) * x2) + (1 : Int32)) : Int32) >>> (1 &&& 31)) (3 : Int32) : Int32)), (10, .int (q_whole z (5 : Int32) : Int32)), (11, .int (q_servedFor z (0 : Int32) : Int32)), (12, .int (q_servedFor z (1 : Int32) : Int32))] [.int y_28] := by
                        intro y_28 w h hdk
                        unfold p_L_law_j668 at h
                        refine v_istore (lv' := [(13, .int y_28), (0, .ref b), (1, .ref q_p0), (2, .int x2), (3, .int (lotW xs L ((2 : Int32) * x2) : Int32)), (4, .int (lotW xs L (((2 : Int32) * x2) + (1 : Int32)) : Int32)), (5, .int (q_whole z (0 : Int32) : Int32)), (6, .int y_12), (7, .int y_13), (8, .int (lowW (lotW xs L (((2 : Int32) * x2) + (1 : Int32)) : Int32) (2 : Int32) : Int32)), (9, .int (lowW ((lotW xs L (((2 : Int32) * x2) + (1 : Int32)) : Int32) >>> (1 &&& 31)) (3 : Int32) : Int32)), (10, .int (q_whole z (5 : Int32) : Int32)), (11, .int (q_servedFor z (0 : Int32) : Int32)), (12, .int (q_servedFor z (1 : Int32) : Int32))]) cx dL_law_668 (by decide) rfl ?_
                        refine v_aload_n cx dL_law_670 rfl 2 rfl ?_
                        refine a_swapSides cx (by decide) ⟨(ob1 (c := c9) (d := 10) hc9 hcm rfl), (ob1 (c := s9) (d := 60) hs9 hsm rfl)⟩ (Nat.le_of_ble_eq_true rfl) dL_law_671 hdk (fun r_29 z_30 w hS hI hdk => ?_)
                        have h := h r_29 z_30 hS hI
                        refine v_iload cx dL_law_674 11 rfl ?_
                        refine v_icmp_ne (tgt := 714) cx dL_law_676 (by decide) h (fun h => ?_) (fun h => ?_)
                        · refine v_lv (lv' := [(0, .ref b), (1, .ref q_p0), (2, .int x2), (3, .int (lotW xs L ((2 : Int32) * x2) : Int32)), (4, .int (lotW xs L (((2 : Int32) * x2) + (1 : Int32)) : Int32)), (5, .int (q_whole z (0 : Int32) : Int32)), (6, .int y_12), (7, .int y_13), (8, .int (lowW (lotW xs L (((2 : Int32) * x2) + (1 : Int32)) : Int32) (2 : Int32) : Int32)), (9, .int (lowW ((lotW xs L (((2 : Int32) * x2) + (1 : Int32)) : Int32) >>> (1 &&& 31)) (3 : Int32) : Int32)), (10, .int (q_whole z (5 : Int32) : Int32)), (11, .int (q_servedFor z (0 : Int32) : Int32)), (12, .int (q_servedFor z (1 : Int32) : Int32)), (13, .int y_28)]) [1, 2, 3, 4, 5, 6, 7, 8, 9, 10, 11, 12, 13, 0] rfl ?_
                          refine v_widen (k9 := cm) (n9 := sm) (ob2 (c := c9) (d := 10) hc9 rfl) (ob2 (c := s9) (d := 60) hs9 rfl) ?_
                          exact hK714 _ _ _ _ _ _ _ _ _ _ _ _ _ _ h hdk
                        · refine v_aload_n cx dL_law_679 rfl 2 rfl ?_
                          refine v_iconst (v := 4) cx dL_law_680 (by decide) ?_
                          refine a_whole cx hl (by decide) ⟨(ob1 (c := c9) (d := 11) hc9 hcm rfl), (ob1 (c := s9) (d := 66) hs9 hsm rfl)⟩ (Nat.le_of_ble_eq_true rfl) dL_law_681 hdk (fun w hdk => ?_)
                          refine v_iload cx dL_law_684 11 rfl ?_
                          refine v_icmp_ne (tgt := 714) cx dL_law_686 (by decide) h (fun h => ?_) (fun h => ?_)
                          · refine v_lv (lv' := [(0, .ref b), (1, .ref q_p0), (2, .int x2), (3, .int (lotW xs L ((2 : Int32) * x2) : Int32)), (4, .int (lotW xs L (((2 : Int32) * x2) + (1 : Int32)) : Int32)), (5, .int (q_whole z (0 : Int32) : Int32)), (6, .int y_12), (7, .int y_13), (8, .int (lowW (lotW xs L (((2 : Int32) * x2) + (1 : Int32)) : Int32) (2 : Int32) : Int32)), (9, .int (lowW ((lotW xs L (((2 : Int32) * x2) + (1 : Int32)) : Int32) >>> (1 &&& 31)) (3 : Int32) : Int32)), (10, .int (q_whole z (5 : Int32) : Int32)), (11, .int (q_servedFor z (0 : Int32) : Int32)), (12, .int (q_servedFor z (1 : Int32) : Int32)), (13, .int y_28)]) [1, 2, 3, 4, 5, 6, 7, 8, 9, 10, 11, 12, 13, 0] rfl ?_
                            refine v_widen (k9 := cm) (n9 := sm) (ob2 (c := c9) (d := 11) hc9 rfl) (ob2 (c := s9) (d := 66) hs9 rfl) ?_
                            exact hK714 _ _ _ _ _ _ _ _ _ _ _ _ _ _ h hdk
                          · refine v_iload cx dL_law_689 0 rfl ?_
                            have hj716 : ∀ (w : va_W), p_L_law_j716 K65_888 x2 xs L z y_12 y_13 (p_L_law_65 L xs K65_179 K65_201 K65_309 K65_469 K65_570 K65_714 K65_824 K65_838 K65_888 K65_896 n) z_30 → DK cy q_p0 z_30 w → vV p l e room_1 s m #[Value.ref b] below meth c (lw_Z below #[Value.ref b] s) 14 D (fun q : Nat => s.heap.size ≤ q) (c9 + 13) (s9 + 78) w 716 [(0, .ref b), (1, .ref q_p0), (2, .int x2), (3, .int (lotW xs L ((2 : Int32) * x2) : Int32)), (4, .int (lotW xs L (((2 : Int32) * x2) + (1 : Int32)) : Int32)), (5, .int (q_whole z (0 : Int32) : Int32)), (6, .int y_12), (7, .int y_13), (8, .int (lowW (lotW xs L (((2 : Int32) * x2) + (1 : Int32)) : Int32) (2 : Int32) : Int32)), (9, .int (lowW ((lotW xs L (((2 : Int32) * x2) + (1 : Int32)) : Int32) >>> (1 &&& 31)) (3 : Int32) : Int32)), (10, .int (q_whole z (5 : Int32) : Int32)), (11, .int (q_servedFor z (0 : Int32) : Int32)), (12, .int (q_servedFor z (1 : Int32) : Int32)), (13, .int y_28)] [] := by
                              intro w h hdk
                              unfold p_L_law_j716 at h
                              refine v_goto (tgt := 840) cx dL_law_716 (by decide) ?_
                              refine v_lv (lv' := [(0, .ref b), (1, .ref q_p0), (2, .int x2), (3, .int (lotW xs L ((2 : Int32) * x2) : Int32)), (4, .int (lotW xs L (((2 : Int32) * x2) + (1 : Int32)) : Int32)), (5, .int (q_whole z (0 : Int32) : Int32)), (6, .int y_12), (7, .int y_13), (8, .int (lowW (lotW xs L (((2 : Int32) * x2) + (1 : Int32)) : Int32) (2 : Int32) : Int32)), (9, .int (lowW ((lotW xs L (((2 : Int32) * x2) + (1 : Int32)) : Int32) >>> (1 &&& 31)) (3 : Int32) : Int32))]) [0, 1, 2, 3, 4, 5, 6, 7, 8, 9] rfl ?_
                              refine v_widen (k9 := (c9 + 96)) (n9 := (s9 + 576)) (ob3 (c := c9) (d := 13) (e := 96) rfl) (ob3 (c := s9) (d := 78) (e := 576) rfl) ?_
                              exact hj840 z_30 _ h hdk
                            refine v_if_eq (tgt := 716) cx dL_law_691 (by decide) h (fun h => ?_) (fun h => ?_)
                            · refine v_lv (lv' := [(0, .ref b), (1, .ref q_p0), (2, .int x2), (3, .int (lotW xs L ((2 : Int32) * x2) : Int32)), (4, .int (lotW xs L (((2 : Int32) * x2) + (1 : Int32)) : Int32)), (5, .int (q_whole z (0 : Int32) : Int32)), (6, .int y_12), (7, .int y_13), (8, .int (lowW (lotW xs L (((2 : Int32) * x2) + (1 : Int32)) : Int32) (2 : Int32) : Int32)), (9, .int (lowW ((lotW xs L (((2 : Int32) * x2) + (1 : Int32)) : Int32) >>> (1 &&& 31)) (3 : Int32) : Int32)), (10, .int (q_whole z (5 : Int32) : Int32)), (11, .int (q_servedFor z (0 : Int32) : Int32)), (12, .int (q_servedFor z (1 : Int32) : Int32)), (13, .int y_28)]) [1, 2, 3, 4, 5, 6, 7, 8, 9, 10, 11, 12, 13, 0] rfl ?_
                              refine v_widen (k9 := (c9 + 13)) (n9 := (s9 + 78)) (ob3 (c := c9) (d := 11) (e := 13) rfl) (ob3 (c := s9) (d := 66) (e := 78) rfl) ?_
                              exact hj716 _ h hdk
                            · refine v_aload_n cx dL_law_694 rfl 2 rfl ?_
                              refine v_iconst (v := 0) cx dL_law_695 (by decide) ?_
                              refine a_servedFor cx hl (by decide) ⟨(ob1 (c := c9) (d := 12) hc9 hcm rfl), (ob1 (c := s9) (d := 72) hs9 hsm rfl)⟩ (Nat.le_of_ble_eq_true rfl) dL_law_696 hdk (fun w hdk => ?_)
                              refine v_iload cx dL_law_699 13 rfl ?_
                              refine v_icmp_ne (tgt := 714) cx dL_law_701 (by decide) h (fun h => ?_) (fun h => ?_)
                              · refine v_lv (lv' := [(0, .ref b), (1, .ref q_p0), (2, .int x2), (3, .int (lotW xs L ((2 : Int32) * x2) : Int32)), (4, .int (lotW xs L (((2 : Int32) * x2) + (1 : Int32)) : Int32)), (5, .int (q_whole z (0 : Int32) : Int32)), (6, .int y_12), (7, .int y_13), (8, .int (lowW (lotW xs L (((2 : Int32) * x2) + (1 : Int32)) : Int32) (2 : Int32) : Int32)), (9, .int (lowW ((lotW xs L (((2 : Int32) * x2) + (1 : Int32)) : Int32) >>> (1 &&& 31)) (3 : Int32) : Int32)), (10, .int (q_whole z (5 : Int32) : Int32)), (11, .int (q_servedFor z (0 : Int32) : Int32)), (12, .int (q_servedFor z (1 : Int32) : Int32)), (13, .int y_28)]) [1, 2, 3, 4, 5, 6, 7, 8, 9, 10, 11, 12, 13, 0] rfl ?_
                                refine v_widen (k9 := cm) (n9 := sm) (ob2 (c := c9) (d := 12) hc9 rfl) (ob2 (c := s9) (d := 72) hs9 rfl) ?_
                                exact hK714 _ _ _ _ _ _ _ _ _ _ _ _ _ _ h hdk
                              · refine v_aload_n cx dL_law_704 rfl 2 rfl ?_
                                refine v_iconst (v := 1) cx dL_law_705 (by decide) ?_
                                refine a_servedFor cx hl (by decide) ⟨(ob1 (c := c9) (d := 13) hc9 hcm rfl), (ob1 (c := s9) (d := 78) hs9 hsm rfl)⟩ (Nat.le_of_ble_eq_true rfl) dL_law_706 hdk (fun w hdk => ?_)
                                refine v_iload cx dL_law_709 12 rfl ?_
                                refine v_icmp_eq (tgt := 716) cx dL_law_711 (by decide) h (fun h => ?_) (fun h => ?_)
                                · refine v_lv (lv' := [(0, .ref b), (1, .ref q_p0), (2, .int x2), (3, .int (lotW xs L ((2 : Int32) * x2) : Int32)), (4, .int (lotW xs L (((2 : Int32) * x2) + (1 : Int32)) : Int32)), (5, .int (q_whole z (0 : Int32) : Int32)), (6, .int y_12), (7, .int y_13), (8, .int (lowW (lotW xs L (((2 : Int32) * x2) + (1 : Int32)) : Int32) (2 : Int32) : Int32)), (9, .int (lowW ((lotW xs L (((2 : Int32) * x2) + (1 : Int32)) : Int32) >>> (1 &&& 31)) (3 : Int32) : Int32)), (10, .int (q_whole z (5 : Int32) : Int32)), (11, .int (q_servedFor z (0 : Int32) : Int32)), (12, .int (q_servedFor z (1 : Int32) : Int32)), (13, .int y_28)]) [1, 2, 3, 4, 5, 6, 7, 8, 9, 10, 11, 12, 13, 0] rfl ?_
                                  refine v_widen (k9 := (c9 + 13)) (n9 := (s9 + 78)) (ob3 (c := c9) (d := 13) (e := 13) rfl) (ob3 (c := s9) (d := 78) (e := 78) rfl) ?_
                                  exact hj716 _ h hdk
                                · refine v_lv (lv' := [(0, .ref b), (1, .ref q_p0), (2, .int x2), (3, .int (lotW xs L ((2 : Int32) * x2) : Int32)), (4, .int (lotW xs L (((2 : Int32) * x2) + (1 : Int32)) : Int32)), (5, .int (q_whole z (0 : Int32) : Int32)), (6, .int y_12), (7, .int y_13), (8, .int (lowW (lotW xs L (((2 : Int32) * x2) + (1 : Int32)) : Int32) (2 : Int32) : Int32)), (9, .int (lowW ((lotW xs L (((2 : Int32) * x2) + (1 : Int32)) : Int32) >>> (1 &&& 31)) (3 : Int32) : Int32)), (10, .int (q_whole z (5 : Int32) : Int32)), (11, .int (q_servedFor z (0 : Int32) : Int32)), (12, .int (q_servedFor z (1 : Int32) : Int32)), (13, .int y_28)]) [1, 2, 3, 4, 5, 6, 7, 8, 9, 10, 11, 12, 13, 0] rfl ?_
                                  refine v_widen (k9 := cm) (n9 := sm) (ob2 (c := c9) (d := 13) hc9 rfl) (ob2 (c := s9) (d := 78) hs9 rfl) ?_
                                  exact hK714 _ _ _ _ _ _ _ _ _ _ _ _ _ _ h hdk
                      have hj667 : ∀ (w : va_W), p_L_law_j667 z K65_714 x2 xs L y_12 y_13 K65_888 (p_L_law_65 L xs K65_179 K65_201 K65_309 K65_469 K65_570 K65_714 K65_824 K65_838 K65_888 K65_896 n) → DK cy q_p0 z w → vV p l e room_1 s m #[Value.ref b] below meth c (lw_Z below #[Value.ref b] s) 14 D (fun q : Nat => s.heap.size ≤ q) (c9 + 10) (s9 + 60) w 667 [(0, .ref b), (1, .ref q_p0), (2, .int x2), (3, .int (lotW xs L ((2 : Int32) * x2) : Int32)), (4, .int (lotW xs L (((2 : Int32) * x2) + (1 : Int32)) : Int32)), (5, .int (q_whole z (0 : Int32) : Int32)), (6, .int y_12), (7, .int y_13), (8, .int (lowW (lotW xs L (((2 : Int32) * x2) + (1 : Int32)) : Int32) (2 : Int32) : Int32)), (9, .int (lowW ((lotW xs L (((2 : Int32) * x2) + (1 : Int32)) : Int32) >>> (1 &&& 31)) (3 : Int32) : Int32)), (10, .int (q_whole z (5 : Int32) : Int32)), (11, .int (q_servedFor z (0 : Int32) : Int32)), (12, .int (q_servedFor z (1 : Int32) : Int32))] [] := by
                        intro w h hdk
                        unfold p_L_law_j667 at h
                        refine v_iconst (v := 0) cx dL_law_667 (by decide) ?_
                        refine v_lv (lv' := [(0, .ref b), (1, .ref q_p0), (2, .int x2), (3, .int (lotW xs L ((2 : Int32) * x2) : Int32)), (4, .int (lotW xs L (((2 : Int32) * x2) + (1 : Int32)) : Int32)), (5, .int (q_whole z (0 : Int32) : Int32)), (6, .int y_12), (7, .int y_13), (8, .int (lowW (lotW xs L (((2 : Int32) * x2) + (1 : Int32)) : Int32) (2 : Int32) : Int32)), (9, .int (lowW ((lotW xs L (((2 : Int32) * x2) + (1 : Int32)) : Int32) >>> (1 &&& 31)) (3 : Int32) : Int32)), (10, .int (q_whole z (5 : Int32) : Int32)), (11, .int (q_servedFor z (0 : Int32) : Int32)), (12, .int (q_servedFor z (1 : Int32) : Int32))]) [0, 1, 2, 3, 4, 5, 6, 7, 8, 9, 10, 11, 12] rfl ?_
                        refine v_widen (k9 := (c9 + 10)) (n9 := (s9 + 60)) (ob3 (c := c9) (d := 10) (e := 10) rfl) (ob3 (c := s9) (d := 60) (e := 60) rfl) ?_
                        exact hj668 0 _ h hdk
                      refine v_icmp_eq (tgt := 667) cx dL_law_610 (by decide) h (fun h => ?_) (fun h => ?_)
                      · refine v_lv (lv' := [(0, .ref b), (1, .ref q_p0), (2, .int x2), (3, .int (lotW xs L ((2 : Int32) * x2) : Int32)), (4, .int (lotW xs L (((2 : Int32) * x2) + (1 : Int32)) : Int32)), (5, .int (q_whole z (0 : Int32) : Int32)), (6, .int y_12), (7, .int y_13), (8, .int (lowW (lotW xs L (((2 : Int32) * x2) + (1 : Int32)) : Int32) (2 : Int32) : Int32)), (9, .int (lowW ((lotW xs L (((2 : Int32) * x2) + (1 : Int32)) : Int32) >>> (1 &&& 31)) (3 : Int32) : Int32)), (10, .int (q_whole z (5 : Int32) : Int32)), (11, .int (q_servedFor z (0 : Int32) : Int32)), (12, .int (q_servedFor z (1 : Int32) : Int32))]) [3, 4, 5, 6, 7, 8, 9, 10, 11, 12, 2, 1, 0] rfl ?_
                        refine v_widen (k9 := (c9 + 10)) (n9 := (s9 + 60)) (ob3 (c := c9) (d := 5) (e := 10) rfl) (ob3 (c := s9) (d := 30) (e := 60) rfl) ?_
                        exact hj667 _ h hdk
                      · refine v_aload_n cx dL_law_613 rfl 4 rfl ?_
                        refine v_bipush (v := 7) cx dL_law_614 (by decide) ?_
                        refine a_whole cx hl (by decide) ⟨(ob1 (c := c9) (d := 6) hc9 hcm rfl), (ob1 (c := s9) (d := 36) hs9 hsm rfl)⟩ (Nat.le_of_ble_eq_true rfl) dL_law_616 hdk (fun w hdk => ?_)
                        refine v_iconst (v := 4) cx dL_law_619 (by decide) ?_
                        refine v_icmp_eq (tgt := 667) cx dL_law_620 (by decide) h (fun h => ?_) (fun h => ?_)
                        · refine v_lv (lv' := [(0, .ref b), (1, .ref q_p0), (2, .int x2), (3, .int (lotW xs L ((2 : Int32) * x2) : Int32)), (4, .int (lotW xs L (((2 : Int32) * x2) + (1 : Int32)) : Int32)), (5, .int (q_whole z (0 : Int32) : Int32)), (6, .int y_12), (7, .int y_13), (8, .int (lowW (lotW xs L (((2 : Int32) * x2) + (1 : Int32)) : Int32) (2 : Int32) : Int32)), (9, .int (lowW ((lotW xs L (((2 : Int32) * x2) + (1 : Int32)) : Int32) >>> (1 &&& 31)) (3 : Int32) : Int32)), (10, .int (q_whole z (5 : Int32) : Int32)), (11, .int (q_servedFor z (0 : Int32) : Int32)), (12, .int (q_servedFor z (1 : Int32) : Int32))]) [3, 4, 5, 6, 7, 8, 9, 10, 11, 12, 2, 1, 0] rfl ?_
                          refine v_widen (k9 := (c9 + 10)) (n9 := (s9 + 60)) (ob3 (c := c9) (d := 6) (e := 10) rfl) (ob3 (c := s9) (d := 36) (e := 60) rfl) ?_
                          exact hj667 _ h hdk
                        · refine v_aload_n cx dL_law_623 rfl 4 rfl ?_
                          refine v_bipush (v := 8) cx dL_law_624 (by decide) ?_
                          refine a_whole cx hl (by decide) ⟨(ob1 (c := c9) (d := 7) hc9 hcm rfl), (ob1 (c := s9) (d := 42) hs9 hsm rfl)⟩ (Nat.le_of_ble_eq_true rfl) dL_law_626 hdk (fun w hdk => ?_)
                          refine v_iconst (v := 3) cx dL_law_629 (by decide) ?_
                          refine v_icmp_eq (tgt := 667) cx dL_law_630 (by decide) h (fun h => ?_) (fun h => ?_)
                          · refine v_lv (lv' := [(0, .ref b), (1, .ref q_p0), (2, .int x2), (3, .int (lotW xs L ((2 : Int32) * x2) : Int32)), (4, .int (lotW xs L (((2 : Int32) * x2) + (1 : Int32)) : Int32)), (5, .int (q_whole z (0 : Int32) : Int32)), (6, .int y_12), (7, .int y_13), (8, .int (lowW (lotW xs L (((2 : Int32) * x2) + (1 : Int32)) : Int32) (2 : Int32) : Int32)), (9, .int (lowW ((lotW xs L (((2 : Int32) * x2) + (1 : Int32)) : Int32) >>> (1 &&& 31)) (3 : Int32) : Int32)), (10, .int (q_whole z (5 : Int32) : Int32)), (11, .int (q_servedFor z (0 : Int32) : Int32)), (12, .int (q_servedFor z (1 : Int32) : Int32))]) [3, 4, 5, 6, 7, 8, 9, 10, 11, 12, 2, 1, 0] rfl ?_
                            refine v_widen (k9 := (c9 + 10)) (n9 := (s9 + 60)) (ob3 (c := c9) (d := 7) (e := 10) rfl) (ob3 (c := s9) (d := 42) (e := 60) rfl) ?_
                            exact hj667 _ h hdk
                          · refine v_aload_n cx dL_law_633 rfl 4 rfl ?_
                            refine v_bipush (v := 8) cx dL_law_634 (by decide) ?_
                            refine a_whole cx hl (by decide) ⟨(ob1 (c := c9) (d := 8) hc9 hcm rfl), (ob1 (c := s9) (d := 48) hs9 hsm rfl)⟩ (Nat.le_of_ble_eq_true rfl) dL_law_636 hdk (fun w hdk => ?_)
                            refine v_iconst (v := 4) cx dL_law_639 (by decide) ?_
                            refine v_icmp_eq (tgt := 667) cx dL_law_640 (by decide) h (fun h => ?_) (fun h => ?_)
                            · refine v_lv (lv' := [(0, .ref b), (1, .ref q_p0), (2, .int x2), (3, .int (lotW xs L ((2 : Int32) * x2) : Int32)), (4, .int (lotW xs L (((2 : Int32) * x2) + (1 : Int32)) : Int32)), (5, .int (q_whole z (0 : Int32) : Int32)), (6, .int y_12), (7, .int y_13), (8, .int (lowW (lotW xs L (((2 : Int32) * x2) + (1 : Int32)) : Int32) (2 : Int32) : Int32)), (9, .int (lowW ((lotW xs L (((2 : Int32) * x2) + (1 : Int32)) : Int32) >>> (1 &&& 31)) (3 : Int32) : Int32)), (10, .int (q_whole z (5 : Int32) : Int32)), (11, .int (q_servedFor z (0 : Int32) : Int32)), (12, .int (q_servedFor z (1 : Int32) : Int32))]) [3, 4, 5, 6, 7, 8, 9, 10, 11, 12, 2, 1, 0] rfl ?_
                              refine v_widen (k9 := (c9 + 10)) (n9 := (s9 + 60)) (ob3 (c := c9) (d := 8) (e := 10) rfl) (ob3 (c := s9) (d := 48) (e := 60) rfl) ?_
                              exact hj667 _ h hdk
                            · refine v_aload_n cx dL_law_643 rfl 4 rfl ?_
                              refine v_bipush (v := 9) cx dL_law_644 (by decide) ?_
                              refine a_whole cx hl (by decide) ⟨(ob1 (c := c9) (d := 9) hc9 hcm rfl), (ob1 (c := s9) (d := 54) hs9 hsm rfl)⟩ (Nat.le_of_ble_eq_true rfl) dL_law_646 hdk (fun w hdk => ?_)
                              refine v_iconst (v := 3) cx dL_law_649 (by decide) ?_
                              refine v_icmp_eq (tgt := 667) cx dL_law_650 (by decide) h (fun h => ?_) (fun h => ?_)
                              · refine v_lv (lv' := [(0, .ref b), (1, .ref q_p0), (2, .int x2), (3, .int (lotW xs L ((2 : Int32) * x2) : Int32)), (4, .int (lotW xs L (((2 : Int32) * x2) + (1 : Int32)) : Int32)), (5, .int (q_whole z (0 : Int32) : Int32)), (6, .int y_12), (7, .int y_13), (8, .int (lowW (lotW xs L (((2 : Int32) * x2) + (1 : Int32)) : Int32) (2 : Int32) : Int32)), (9, .int (lowW ((lotW xs L (((2 : Int32) * x2) + (1 : Int32)) : Int32) >>> (1 &&& 31)) (3 : Int32) : Int32)), (10, .int (q_whole z (5 : Int32) : Int32)), (11, .int (q_servedFor z (0 : Int32) : Int32)), (12, .int (q_servedFor z (1 : Int32) : Int32))]) [3, 4, 5, 6, 7, 8, 9, 10, 11, 12, 2, 1, 0] rfl ?_
                                refine v_widen (k9 := (c9 + 10)) (n9 := (s9 + 60)) (ob3 (c := c9) (d := 9) (e := 10) rfl) (ob3 (c := s9) (d := 54) (e := 60) rfl) ?_
                                exact hj667 _ h hdk
                              · refine v_aload_n cx dL_law_653 rfl 4 rfl ?_
                                refine v_bipush (v := 9) cx dL_law_654 (by decide) ?_
                                refine a_whole cx hl (by decide) ⟨(ob1 (c := c9) (d := 10) hc9 hcm rfl), (ob1 (c := s9) (d := 60) hs9 hsm rfl)⟩ (Nat.le_of_ble_eq_true rfl) dL_law_656 hdk (fun w hdk => ?_)
                                refine v_iconst (v := 4) cx dL_law_659 (by decide) ?_
                                refine v_icmp_eq (tgt := 667) cx dL_law_660 (by decide) h (fun h => ?_) (fun h => ?_)
                                · refine v_lv (lv' := [(0, .ref b), (1, .ref q_p0), (2, .int x2), (3, .int (lotW xs L ((2 : Int32) * x2) : Int32)), (4, .int (lotW xs L (((2 : Int32) * x2) + (1 : Int32)) : Int32)), (5, .int (q_whole z (0 : Int32) : Int32)), (6, .int y_12), (7, .int y_13), (8, .int (lowW (lotW xs L (((2 : Int32) * x2) + (1 : Int32)) : Int32) (2 : Int32) : Int32)), (9, .int (lowW ((lotW xs L (((2 : Int32) * x2) + (1 : Int32)) : Int32) >>> (1 &&& 31)) (3 : Int32) : Int32)), (10, .int (q_whole z (5 : Int32) : Int32)), (11, .int (q_servedFor z (0 : Int32) : Int32)), (12, .int (q_servedFor z (1 : Int32) : Int32))]) [3, 4, 5, 6, 7, 8, 9, 10, 11, 12, 2, 1, 0] rfl ?_
                                  refine v_widen (k9 := (c9 + 10)) (n9 := (s9 + 60)) (ob3 (c := c9) (d := 10) (e := 10) rfl) (ob3 (c := s9) (d := 60) (e := 60) rfl) ?_
                                  exact hj667 _ h hdk
                                · refine v_iconst (v := 1) cx dL_law_663 (by decide) ?_
                                  refine v_goto (tgt := 668) cx dL_law_664 (by decide) ?_
                                  refine v_lv (lv' := [(0, .ref b), (1, .ref q_p0), (2, .int x2), (3, .int (lotW xs L ((2 : Int32) * x2) : Int32)), (4, .int (lotW xs L (((2 : Int32) * x2) + (1 : Int32)) : Int32)), (5, .int (q_whole z (0 : Int32) : Int32)), (6, .int y_12), (7, .int y_13), (8, .int (lowW (lotW xs L (((2 : Int32) * x2) + (1 : Int32)) : Int32) (2 : Int32) : Int32)), (9, .int (lowW ((lotW xs L (((2 : Int32) * x2) + (1 : Int32)) : Int32) >>> (1 &&& 31)) (3 : Int32) : Int32)), (10, .int (q_whole z (5 : Int32) : Int32)), (11, .int (q_servedFor z (0 : Int32) : Int32)), (12, .int (q_servedFor z (1 : Int32) : Int32))]) [3, 4, 5, 6, 7, 8, 9, 10, 11, 12, 2, 1, 0] rfl ?_
                                  refine v_widen (k9 := (c9 + 10)) (n9 := (s9 + 60)) (ob3 (c := c9) (d := 10) (e := 10) rfl) (ob3 (c := s9) (d := 60) (e := 60) rfl) ?_
                                  exact hj668 1 _ h hdk
                  refine v_icmp_ne (tgt := 575) cx dL_law_478 (by decide) h (fun h => ?_) (fun h => ?_)
                  · refine v_lv (lv' := [(0, .ref b), (1, .ref q_p0), (2, .int x2), (3, .int (lotW xs L ((2 : Int32) * x2) : Int32)), (4, .int (lotW xs L (((2 : Int32) * x2) + (1 : Int32)) : Int32)), (5, .int (q_whole z (0 : Int32) : Int32)), (6, .int y_12), (7, .int y_13), (8, .int (lowW (lotW xs L (((2 : Int32) * x2) + (1 : Int32)) : Int32) (2 : Int32) : Int32)), (9, .int (lowW ((lotW xs L (((2 : Int32) * x2) + (1 : Int32)) : Int32) >>> (1 &&& 31)) (3 : Int32) : Int32))]) [0, 1, 2, 3, 4, 5, 6, 7, 8, 9] rfl ?_
                    refine v_widen (k9 := (c9 + 1)) (n9 := (s9 + 6)) (ob3 (c := c9) (d := 1) (e := 1) rfl) (ob3 (c := s9) (d := 6) (e := 6) rfl) ?_
                    exact hj575 _ h hdk
                  · refine v_iload cx dL_law_481 5 rfl ?_
                    refine v_if_le (tgt := 575) cx dL_law_483 (by decide) h (fun h => ?_) (fun h => ?_)
                    · refine v_lv (lv' := [(0, .ref b), (1, .ref q_p0), (2, .int x2), (3, .int (lotW xs L ((2 : Int32) * x2) : Int32)), (4, .int (lotW xs L (((2 : Int32) * x2) + (1 : Int32)) : Int32)), (5, .int (q_whole z (0 : Int32) : Int32)), (6, .int y_12), (7, .int y_13), (8, .int (lowW (lotW xs L (((2 : Int32) * x2) + (1 : Int32)) : Int32) (2 : Int32) : Int32)), (9, .int (lowW ((lotW xs L (((2 : Int32) * x2) + (1 : Int32)) : Int32) >>> (1 &&& 31)) (3 : Int32) : Int32))]) [0, 1, 2, 3, 4, 5, 6, 7, 8, 9] rfl ?_
                      refine v_widen (k9 := (c9 + 1)) (n9 := (s9 + 6)) (ob3 (c := c9) (d := 1) (e := 1) rfl) (ob3 (c := s9) (d := 6) (e := 6) rfl) ?_
                      exact hj575 _ h hdk
                    · refine v_iload cx dL_law_486 7 rfl ?_
                      refine v_iconst (v := 1) cx dL_law_488 (by decide) ?_
                      refine v_iadd cx dL_law_489 ?_
                      refine v_iload cx dL_law_490 5 rfl ?_
                      have hj508 : ∀ (y_18 : Int32) (w : va_W), p_L_law_j508 z y_13 K65_570 x2 xs L y_12 K65_888 (p_L_law_65 L xs K65_179 K65_201 K65_309 K65_469 K65_570 K65_714 K65_824 K65_838 K65_888 K65_896 n) y_18 → DK cy q_p0 z w → vV p l e room_1 s m #[Value.ref b] below meth c (lw_Z below #[Value.ref b] s) 14 D (fun q : Nat => s.heap.size ≤ q) (c9 + 2) (s9 + 12) w 508 [(0, .ref b), (1, .ref q_p0), (2, .int x2), (3, .int (lotW xs L ((2 : Int32) * x2) : Int32)), (4, .int (lotW xs L (((2 : Int32) * x2) + (1 : Int32)) : Int32)), (5, .int (q_whole z (0 : Int32) : Int32)), (6, .int y_12), (7, .int y_13), (8, .int (lowW (lotW xs L (((2 : Int32) * x2) + (1 : Int32)) : Int32) (2 : Int32) : Int32)), (9, .int (lowW ((lotW xs L (((2 : Int32) * x2) + (1 : Int32)) : Int32) >>> (1 &&& 31)) (3 : Int32) : Int32))] [.int y_18] := by
                        intro y_18 w h hdk
                        unfold p_L_law_j508 at h
                        refine v_istore (lv' := [(10, .int y_18), (0, .ref b), (1, .ref q_p0), (2, .int x2), (3, .int (lotW xs L ((2 : Int32) * x2) : Int32)), (4, .int (lotW xs L (((2 : Int32) * x2) + (1 : Int32)) : Int32)), (5, .int (q_whole z (0 : Int32) : Int32)), (6, .int y_12), (7, .int y_13), (8, .int (lowW (lotW xs L (((2 : Int32) * x2) + (1 : Int32)) : Int32) (2 : Int32) : Int32)), (9, .int (lowW ((lotW xs L (((2 : Int32) * x2) + (1 : Int32)) : Int32) >>> (1 &&& 31)) (3 : Int32) : Int32))]) cx dL_law_508 (by decide) rfl ?_
                        refine v_aload_n cx dL_law_510 rfl 2 rfl ?_
                        refine v_iload cx dL_law_511 8 rfl ?_
                        refine a_removeVariant cx hl (by decide) ⟨(ob1 (c := c9) (d := 3) hc9 hcm rfl), (ob1 (c := s9) (d := 18) hs9 hsm rfl)⟩ (Nat.le_of_ble_eq_true rfl) dL_law_513 hdk (fun r_19 z_20 w hS hI hdk => ?_)
                        have h := h r_19 z_20 hS hI
                        refine v_iload cx dL_law_516 6 rfl ?_
                        refine v_iconst (v := 1) cx dL_law_518 (by decide) ?_
                        refine v_isub cx dL_law_519 ?_
                        refine v_icmp_ne (tgt := 570) cx dL_law_520 (by decide) h (fun h => ?_) (fun h => ?_)
                        · refine v_lv (lv' := [(0, .ref b), (1, .ref q_p0), (2, .int x2), (3, .int (lotW xs L ((2 : Int32) * x2) : Int32)), (4, .int (lotW xs L (((2 : Int32) * x2) + (1 : Int32)) : Int32)), (5, .int (q_whole z (0 : Int32) : Int32)), (6, .int y_12), (7, .int y_13), (8, .int (lowW (lotW xs L (((2 : Int32) * x2) + (1 : Int32)) : Int32) (2 : Int32) : Int32)), (9, .int (lowW ((lotW xs L (((2 : Int32) * x2) + (1 : Int32)) : Int32) >>> (1 &&& 31)) (3 : Int32) : Int32)), (10, .int y_18)]) [1, 2, 3, 4, 5, 6, 7, 8, 9, 10, 0] rfl ?_
                          refine v_widen (k9 := cm) (n9 := sm) (ob2 (c := c9) (d := 3) hc9 rfl) (ob2 (c := s9) (d := 18) hs9 rfl) ?_
                          exact hK570 _ _ _ _ _ _ _ _ _ _ _ h hdk
                        · refine v_iload cx dL_law_523 8 rfl ?_
                          refine v_iconst (v := 1) cx dL_law_525 (by decide) ?_
                          refine v_iadd cx dL_law_526 ?_
                          refine v_iload cx dL_law_527 6 rfl ?_
                          have hj544 : ∀ (w : va_W), p_L_law_j544 xs L x2 K65_888 z y_12 y_13 (p_L_law_65 L xs K65_179 K65_201 K65_309 K65_469 K65_570 K65_714 K65_824 K65_838 K65_888 K65_896 n) z_20 K65_570 y_18 → DK cy q_p0 z_20 w → vV p l e room_1 s m #[Value.ref b] below meth c (lw_Z below #[Value.ref b] s) 14 D (fun q : Nat => s.heap.size ≤ q) (c9 + 4) (s9 + 24) w 544 [(0, .ref b), (1, .ref q_p0), (2, .int x2), (3, .int (lotW xs L ((2 : Int32) * x2) : Int32)), (4, .int (lotW xs L (((2 : Int32) * x2) + (1 : Int32)) : Int32)), (5, .int (q_whole z (0 : Int32) : Int32)), (6, .int y_12), (7, .int y_13), (8, .int (lowW (lotW xs L (((2 : Int32) * x2) + (1 : Int32)) : Int32) (2 : Int32) : Int32)), (9, .int (lowW ((lotW xs L (((2 : Int32) * x2) + (1 : Int32)) : Int32) >>> (1 &&& 31)) (3 : Int32) : Int32)), (10, .int y_18)] [] := by
                            intro w h hdk
                            unfold p_L_law_j544 at h
                            refine v_iload cx dL_law_544 4 rfl ?_
                            refine v_iconst (v := 2) cx dL_law_546 (by decide) ?_
                            refine a_low cx (by decide) ⟨(ob1 (c := c9) (d := 4) hc9 hcm rfl), (ob1 (c := s9) (d := 24) hs9 hsm rfl)⟩ (Nat.le_of_ble_eq_true rfl) dL_law_547 (by decide) ?_
                            have hj572 : ∀ (z_23 : DS) (w : va_W), p_L_law_j572 K65_888 x2 xs L z y_12 y_13 (p_L_law_65 L xs K65_179 K65_201 K65_309 K65_469 K65_570 K65_714 K65_824 K65_838 K65_888 K65_896 n) z_23 → DK cy q_p0 z_23 w → vV p l e room_1 s m #[Value.ref b] below meth c (lw_Z below #[Value.ref b] s) 14 D (fun q : Nat => s.heap.size ≤ q) (c9 + 6) (s9 + 36) w 572 [(0, .ref b), (1, .ref q_p0), (2, .int x2), (3, .int (lotW xs L ((2 : Int32) * x2) : Int32)), (4, .int (lotW xs L (((2 : Int32) * x2) + (1 : Int32)) : Int32)), (5, .int (q_whole z (0 : Int32) : Int32)), (6, .int y_12), (7, .int y_13), (8, .int (lowW (lotW xs L (((2 : Int32) * x2) + (1 : Int32)) : Int32) (2 : Int32) : Int32)), (9, .int (lowW ((lotW xs L (((2 : Int32) * x2) + (1 : Int32)) : Int32) >>> (1 &&& 31)) (3 : Int32) : Int32)), (10, .int y_18)] [] := by
                              intro z_23 w h hdk
                              unfold p_L_law_j572 at h
                              refine v_goto (tgt := 840) cx dL_law_572 (by decide) ?_
                              refine v_lv (lv' := [(0, .ref b), (1, .ref q_p0), (2, .int x2), (3, .int (lotW xs L ((2 : Int32) * x2) : Int32)), (4, .int (lotW xs L (((2 : Int32) * x2) + (1 : Int32)) : Int32)), (5, .int (q_whole z (0 : Int32) : Int32)), (6, .int y_12), (7, .int y_13), (8, .int (lowW (lotW xs L (((2 : Int32) * x2) + (1 : Int32)) : Int32) (2 : Int32) : Int32)), (9, .int (lowW ((lotW xs L (((2 : Int32) * x2) + (1 : Int32)) : Int32) >>> (1 &&& 31)) (3 : Int32) : Int32))]) [0, 1, 2, 3, 4, 5, 6, 7, 8, 9] rfl ?_
                              refine v_widen (k9 := (c9 + 96)) (n9 := (s9 + 576)) (ob3 (c := c9) (d := 6) (e := 96) rfl) (ob3 (c := s9) (d := 36) (e := 576) rfl) ?_
                              exact hj840 z_23 _ h hdk
                            refine v_if_ne (tgt := 572) cx dL_law_550 (by decide) h (fun h => ?_) (fun h => ?_)
                            · refine v_lv (lv' := [(0, .ref b), (1, .ref q_p0), (2, .int x2), (3, .int (lotW xs L ((2 : Int32) * x2) : Int32)), (4, .int (lotW xs L (((2 : Int32) * x2) + (1 : Int32)) : Int32)), (5, .int (q_whole z (0 : Int32) : Int32)), (6, .int y_12), (7, .int y_13), (8, .int (lowW (lotW xs L (((2 : Int32) * x2) + (1 : Int32)) : Int32) (2 : Int32) : Int32)), (9, .int (lowW ((lotW xs L (((2 : Int32) * x2) + (1 : Int32)) : Int32) >>> (1 &&& 31)) (3 : Int32) : Int32)), (10, .int y_18)]) [0, 1, 2, 3, 4, 5, 6, 7, 8, 9, 10] rfl ?_
                              refine v_widen (k9 := (c9 + 6)) (n9 := (s9 + 36)) (ob3 (c := c9) (d := 4) (e := 6) rfl) (ob3 (c := s9) (d := 24) (e := 36) rfl) ?_
                              exact hj572 z_20 _ h hdk
                            · refine v_aload_n cx dL_law_553 rfl 1 rfl ?_
                              refine a_undo cx hl (by decide) ⟨(ob1 (c := c9) (d := 5) hc9 hcm rfl), (ob1 (c := s9) (d := 30) hs9 hsm rfl)⟩ (Nat.le_of_ble_eq_true rfl) dL_law_554 hdk (fun r_21 z_22 w hS hI hdk => ?_)
                              have h := h r_21 z_22 hS hI
                              refine v_if_lt (tgt := 570) cx dL_law_557 (by decide) h (fun h => ?_) (fun h => ?_)
                              · refine v_lv (lv' := [(0, .ref b), (1, .ref q_p0), (2, .int x2), (3, .int (lotW xs L ((2 : Int32) * x2) : Int32)), (4, .int (lotW xs L (((2 : Int32) * x2) + (1 : Int32)) : Int32)), (5, .int (q_whole z (0 : Int32) : Int32)), (6, .int y_12), (7, .int y_13), (8, .int (lowW (lotW xs L (((2 : Int32) * x2) + (1 : Int32)) : Int32) (2 : Int32) : Int32)), (9, .int (lowW ((lotW xs L (((2 : Int32) * x2) + (1 : Int32)) : Int32) >>> (1 &&& 31)) (3 : Int32) : Int32)), (10, .int y_18)]) [0, 1, 2, 3, 4, 5, 6, 7, 8, 9, 10] rfl ?_
                                refine v_widen (k9 := cm) (n9 := sm) (ob2 (c := c9) (d := 5) hc9 rfl) (ob2 (c := s9) (d := 30) hs9 rfl) ?_
                                exact hK570 _ _ _ _ _ _ _ _ _ _ _ h hdk
                              · refine v_aload_n cx dL_law_560 rfl 1 rfl ?_
                                refine v_iconst (v := 0) cx dL_law_561 (by decide) ?_
                                refine a_whole cx hl (by decide) ⟨(ob1 (c := c9) (d := 6) hc9 hcm rfl), (ob1 (c := s9) (d := 36) hs9 hsm rfl)⟩ (Nat.le_of_ble_eq_true rfl) dL_law_562 hdk (fun w hdk => ?_)
                                refine v_iload cx dL_law_565 5 rfl ?_
                                refine v_icmp_eq (tgt := 572) cx dL_law_567 (by decide) h (fun h => ?_) (fun h => ?_)
                                · refine v_lv (lv' := [(0, .ref b), (1, .ref q_p0), (2, .int x2), (3, .int (lotW xs L ((2 : Int32) * x2) : Int32)), (4, .int (lotW xs L (((2 : Int32) * x2) + (1 : Int32)) : Int32)), (5, .int (q_whole z (0 : Int32) : Int32)), (6, .int y_12), (7, .int y_13), (8, .int (lowW (lotW xs L (((2 : Int32) * x2) + (1 : Int32)) : Int32) (2 : Int32) : Int32)), (9, .int (lowW ((lotW xs L (((2 : Int32) * x2) + (1 : Int32)) : Int32) >>> (1 &&& 31)) (3 : Int32) : Int32)), (10, .int y_18)]) [0, 1, 2, 3, 4, 5, 6, 7, 8, 9, 10] rfl ?_
                                  refine v_widen (k9 := (c9 + 6)) (n9 := (s9 + 36)) (ob3 (c := c9) (d := 6) (e := 6) rfl) (ob3 (c := s9) (d := 36) (e := 36) rfl) ?_
                                  exact hj572 z_22 _ h hdk
                                · refine v_lv (lv' := [(0, .ref b), (1, .ref q_p0), (2, .int x2), (3, .int (lotW xs L ((2 : Int32) * x2) : Int32)), (4, .int (lotW xs L (((2 : Int32) * x2) + (1 : Int32)) : Int32)), (5, .int (q_whole z (0 : Int32) : Int32)), (6, .int y_12), (7, .int y_13), (8, .int (lowW (lotW xs L (((2 : Int32) * x2) + (1 : Int32)) : Int32) (2 : Int32) : Int32)), (9, .int (lowW ((lotW xs L (((2 : Int32) * x2) + (1 : Int32)) : Int32) >>> (1 &&& 31)) (3 : Int32) : Int32)), (10, .int y_18)]) [0, 1, 2, 3, 4, 5, 6, 7, 8, 9, 10] rfl ?_
                                  refine v_widen (k9 := cm) (n9 := sm) (ob2 (c := c9) (d := 6) hc9 rfl) (ob2 (c := s9) (d := 36) hs9 rfl) ?_
                                  exact hK570 _ _ _ _ _ _ _ _ _ _ _ h hdk
                          refine v_icmp_ge (tgt := 544) cx dL_law_529 (by decide) h (fun h => ?_) (fun h => ?_)
                          · refine v_lv (lv' := [(0, .ref b), (1, .ref q_p0), (2, .int x2), (3, .int (lotW xs L ((2 : Int32) * x2) : Int32)), (4, .int (lotW xs L (((2 : Int32) * x2) + (1 : Int32)) : Int32)), (5, .int (q_whole z (0 : Int32) : Int32)), (6, .int y_12), (7, .int y_13), (8, .int (lowW (lotW xs L (((2 : Int32) * x2) + (1 : Int32)) : Int32) (2 : Int32) : Int32)), (9, .int (lowW ((lotW xs L (((2 : Int32) * x2) + (1 : Int32)) : Int32) >>> (1 &&& 31)) (3 : Int32) : Int32)), (10, .int y_18)]) [1, 2, 3, 4, 5, 6, 7, 8, 9, 10, 0] rfl ?_
                            refine v_widen (k9 := (c9 + 4)) (n9 := (s9 + 24)) (ob3 (c := c9) (d := 3) (e := 4) rfl) (ob3 (c := s9) (d := 18) (e := 24) rfl) ?_
                            exact hj544 _ h hdk
                          · refine v_aload_n cx dL_law_532 rfl 2 rfl ?_
                            refine v_iload cx dL_law_533 8 rfl ?_
                            refine v_iconst (v := 0) cx dL_law_535 (by decide) ?_
                            refine a_variant cx hl (by decide) ⟨(ob1 (c := c9) (d := 4) hc9 hcm rfl), (ob1 (c := s9) (d := 24) hs9 hsm rfl)⟩ (Nat.le_of_ble_eq_true rfl) dL_law_536 hdk (fun w hdk => ?_)
                            refine v_iload cx dL_law_539 0 rfl ?_
                            refine v_icmp_ne (tgt := 570) cx dL_law_541 (by decide) h (fun h => ?_) (fun h => ?_)
                            · refine v_lv (lv' := [(0, .ref b), (1, .ref q_p0), (2, .int x2), (3, .int (lotW xs L ((2 : Int32) * x2) : Int32)), (4, .int (lotW xs L (((2 : Int32) * x2) + (1 : Int32)) : Int32)), (5, .int (q_whole z (0 : Int32) : Int32)), (6, .int y_12), (7, .int y_13), (8, .int (lowW (lotW xs L (((2 : Int32) * x2) + (1 : Int32)) : Int32) (2 : Int32) : Int32)), (9, .int (lowW ((lotW xs L (((2 : Int32) * x2) + (1 : Int32)) : Int32) >>> (1 &&& 31)) (3 : Int32) : Int32)), (10, .int y_18)]) [1, 2, 3, 4, 5, 6, 7, 8, 9, 10, 0] rfl ?_
                              refine v_widen (k9 := cm) (n9 := sm) (ob2 (c := c9) (d := 4) hc9 rfl) (ob2 (c := s9) (d := 24) hs9 rfl) ?_
                              exact hK570 _ _ _ _ _ _ _ _ _ _ _ h hdk
                            · refine v_lv (lv' := [(0, .ref b), (1, .ref q_p0), (2, .int x2), (3, .int (lotW xs L ((2 : Int32) * x2) : Int32)), (4, .int (lotW xs L (((2 : Int32) * x2) + (1 : Int32)) : Int32)), (5, .int (q_whole z (0 : Int32) : Int32)), (6, .int y_12), (7, .int y_13), (8, .int (lowW (lotW xs L (((2 : Int32) * x2) + (1 : Int32)) : Int32) (2 : Int32) : Int32)), (9, .int (lowW ((lotW xs L (((2 : Int32) * x2) + (1 : Int32)) : Int32) >>> (1 &&& 31)) (3 : Int32) : Int32)), (10, .int y_18)]) [1, 2, 3, 4, 5, 6, 7, 8, 9, 10, 0] rfl ?_
                              refine v_widen (k9 := (c9 + 4)) (n9 := (s9 + 24)) (ob3 (c := c9) (d := 4) (e := 4) rfl) (ob3 (c := s9) (d := 24) (e := 24) rfl) ?_
                              exact hj544 _ h hdk
                      refine v_icmp_ge (tgt := 507) cx dL_law_492 (by decide) h (fun h => ?_) (fun h => ?_)
                      · refine v_iconst (v := 0) cx dL_law_507 (by decide) ?_
                        refine v_lv (lv' := [(0, .ref b), (1, .ref q_p0), (2, .int x2), (3, .int (lotW xs L ((2 : Int32) * x2) : Int32)), (4, .int (lotW xs L (((2 : Int32) * x2) + (1 : Int32)) : Int32)), (5, .int (q_whole z (0 : Int32) : Int32)), (6, .int y_12), (7, .int y_13), (8, .int (lowW (lotW xs L (((2 : Int32) * x2) + (1 : Int32)) : Int32) (2 : Int32) : Int32)), (9, .int (lowW ((lotW xs L (((2 : Int32) * x2) + (1 : Int32)) : Int32) >>> (1 &&& 31)) (3 : Int32) : Int32))]) [0, 1, 2, 3, 4, 5, 6, 7, 8, 9] rfl ?_
                        refine v_widen (k9 := (c9 + 2)) (n9 := (s9 + 12)) (ob3 (c := c9) (d := 1) (e := 2) rfl) (ob3 (c := s9) (d := 6) (e := 12) rfl) ?_
                        exact hj508 0 _ h hdk
                      · refine v_aload_n cx dL_law_495 rfl 1 rfl ?_
                        refine v_iload cx dL_law_496 7 rfl ?_
                        refine v_iconst (v := 1) cx dL_law_498 (by decide) ?_
                        refine v_iadd cx dL_law_499 ?_
                        refine v_iconst (v := 0) cx dL_law_500 (by decide) ?_
                        refine a_variant cx hl (by decide) ⟨(ob1 (c := c9) (d := 2) hc9 hcm rfl), (ob1 (c := s9) (d := 12) hs9 hsm rfl)⟩ (Nat.le_of_ble_eq_true rfl) dL_law_501 hdk (fun w hdk => ?_)
                        refine v_goto (tgt := 508) cx dL_law_504 (by decide) ?_
                        refine v_lv (lv' := [(0, .ref b), (1, .ref q_p0), (2, .int x2), (3, .int (lotW xs L ((2 : Int32) * x2) : Int32)), (4, .int (lotW xs L (((2 : Int32) * x2) + (1 : Int32)) : Int32)), (5, .int (q_whole z (0 : Int32) : Int32)), (6, .int y_12), (7, .int y_13), (8, .int (lowW (lotW xs L (((2 : Int32) * x2) + (1 : Int32)) : Int32) (2 : Int32) : Int32)), (9, .int (lowW ((lotW xs L (((2 : Int32) * x2) + (1 : Int32)) : Int32) >>> (1 &&& 31)) (3 : Int32) : Int32))]) [0, 1, 2, 3, 4, 5, 6, 7, 8, 9] rfl ?_
                        refine v_widen (k9 := (c9 + 2)) (n9 := (s9 + 12)) (ob3 (c := c9) (d := 2) (e := 2) rfl) (ob3 (c := s9) (d := 12) (e := 12) rfl) ?_
                        exact hj508 (q_variant z (y_13 + (1 : Int32)) (0 : Int32) : Int32) _ h hdk
                · refine v_aload_n cx dL_law_321 rfl 1 rfl ?_
                  refine v_iload cx dL_law_322 8 rfl ?_
                  refine v_iload cx dL_law_324 9 rfl ?_
                  refine v_iconst (v := 0) cx dL_law_326 (by decide) ?_
                  refine v_iconst (v := 0) cx dL_law_327 (by decide) ?_
                  refine a_entry cx hl (by decide) ⟨(ob1 (c := c9) (d := 2) hc9 hcm rfl), (ob1 (c := s9) (d := 12) hs9 hsm rfl)⟩ (Nat.le_of_ble_eq_true rfl) dL_law_328 hdk (fun w hdk => ?_)
                  refine v_istore (lv' := [(10, .int (q_entry z (lowW (lotW xs L (((2 : Int32) * x2) + (1 : Int32)) : Int32) (2 : Int32) : Int32) (lowW ((lotW xs L (((2 : Int32) * x2) + (1 : Int32)) : Int32) >>> (1 &&& 31)) (3 : Int32) : Int32) (0 : Int32) (0 : Int32) : Int32)), (0, .ref b), (1, .ref q_p0), (2, .int x2), (3, .int (lotW xs L ((2 : Int32) * x2) : Int32)), (4, .int (lotW xs L (((2 : Int32) * x2) + (1 : Int32)) : Int32)), (5, .int (q_whole z (0 : Int32) : Int32)), (6, .int y_12), (7, .int y_13), (8, .int (lowW (lotW xs L (((2 : Int32) * x2) + (1 : Int32)) : Int32) (2 : Int32) : Int32)), (9, .int (lowW ((lotW xs L (((2 : Int32) * x2) + (1 : Int32)) : Int32) >>> (1 &&& 31)) (3 : Int32) : Int32))]) cx dL_law_331 (by decide) rfl ?_
                  refine v_aload_n cx dL_law_333 rfl 2 rfl ?_
                  refine v_iconst (v := 4) cx dL_law_334 (by decide) ?_
                  refine v_iload cx dL_law_335 9 rfl ?_
                  refine v_iadd cx dL_law_337 ?_
                  refine a_whole cx hl (by decide) ⟨(ob1 (c := c9) (d := 3) hc9 hcm rfl), (ob1 (c := s9) (d := 18) hs9 hsm rfl)⟩ (Nat.le_of_ble_eq_true rfl) dL_law_338 hdk (fun w hdk => ?_)
                  refine v_istore (lv' := [(11, .int (q_whole z ((4 : Int32) + (lowW (lotW xs L (((2 : Int32) * x2) + (1 : Int32)) : Int32) (2 : Int32) : Int32)) : Int32)), (10, .int (q_entry z (lowW (lotW xs L (((2 : Int32) * x2) + (1 : Int32)) : Int32) (2 : Int32) : Int32) (lowW ((lotW xs L (((2 : Int32) * x2) + (1 : Int32)) : Int32) >>> (1 &&& 31)) (3 : Int32) : Int32) (0 : Int32) (0 : Int32) : Int32)), (0, .ref b), (1, .ref q_p0), (2, .int x2), (3, .int (lotW xs L ((2 : Int32) * x2) : Int32)), (4, .int (lotW xs L (((2 : Int32) * x2) + (1 : Int32)) : Int32)), (5, .int (q_whole z (0 : Int32) : Int32)), (6, .int y_12), (7, .int y_13), (8, .int (lowW (lotW xs L (((2 : Int32) * x2) + (1 : Int32)) : Int32) (2 : Int32) : Int32)), (9, .int (lowW ((lotW xs L (((2 : Int32) * x2) + (1 : Int32)) : Int32) >>> (1 &&& 31)) (3 : Int32) : Int32))]) cx dL_law_341 (by decide) rfl ?_
                  refine v_iload cx dL_law_343 1 rfl ?_
                  have hj406 : ∀ (z_33 : DS) (w : va_W), p_L_law_j406 z xs L x2 K65_888 y_12 y_13 (p_L_law_65 L xs K65_179 K65_201 K65_309 K65_469 K65_570 K65_714 K65_824 K65_838 K65_888 K65_896 n) K65_469 z_33 → DK cy q_p0 z_33 w → vV p l e room_1 s m #[Value.ref b] below meth c (lw_Z below #[Value.ref b] s) 14 D (fun q : Nat => s.heap.size ≤ q) (c9 + 5) (s9 + 30) w 406 [(0, .ref b), (1, .ref q_p0), (2, .int x2), (3, .int (lotW xs L ((2 : Int32) * x2) : Int32)), (4, .int (lotW xs L (((2 : Int32) * x2) + (1 : Int32)) : Int32)), (5, .int (q_whole z (0 : Int32) : Int32)), (6, .int y_12), (7, .int y_13), (8, .int (lowW (lotW xs L (((2 : Int32) * x2) + (1 : Int32)) : Int32) (2 : Int32) : Int32)), (9, .int (lowW ((lotW xs L (((2 : Int32) * x2) + (1 : Int32)) : Int32) >>> (1 &&& 31)) (3 : Int32) : Int32)), (10, .int (q_entry z (lowW (lotW xs L (((2 : Int32) * x2) + (1 : Int32)) : Int32) (2 : Int32) : Int32) (lowW ((lotW xs L (((2 : Int32) * x2) + (1 : Int32)) : Int32) >>> (1 &&& 31)) (3 : Int32) : Int32) (0 : Int32) (0 : Int32) : Int32)), (11, .int (q_whole z ((4 : Int32) + (lowW (lotW xs L (((2 : Int32) * x2) + (1 : Int32)) : Int32) (2 : Int32) : Int32)) : Int32))] [] := by
                    intro z_33 w h hdk
                    unfold p_L_law_j406 at h
                    refine v_iload cx dL_law_406 10 rfl ?_
                    have hj450 : ∀ (z_36 : DS) (w : va_W), p_L_law_j450 z xs L x2 K65_888 y_12 y_13 (p_L_law_65 L xs K65_179 K65_201 K65_309 K65_469 K65_570 K65_714 K65_824 K65_838 K65_888 K65_896 n) K65_469 z_36 → DK cy q_p0 z_36 w → vV p l e room_1 s m #[Value.ref b] below meth c (lw_Z below #[Value.ref b] s) 14 D (fun q : Nat => s.heap.size ≤ q) (c9 + 7) (s9 + 42) w 450 [(0, .ref b), (1, .ref q_p0), (2, .int x2), (3, .int (lotW xs L ((2 : Int32) * x2) : Int32)), (4, .int (lotW xs L (((2 : Int32) * x2) + (1 : Int32)) : Int32)), (5, .int (q_whole z (0 : Int32) : Int32)), (6, .int y_12), (7, .int y_13), (8, .int (lowW (lotW xs L (((2 : Int32) * x2) + (1 : Int32)) : Int32) (2 : Int32) : Int32)), (9, .int (lowW ((lotW xs L (((2 : Int32) * x2) + (1 : Int32)) : Int32) >>> (1 &&& 31)) (3 : Int32) : Int32)), (10, .int (q_entry z (lowW (lotW xs L (((2 : Int32) * x2) + (1 : Int32)) : Int32) (2 : Int32) : Int32) (lowW ((lotW xs L (((2 : Int32) * x2) + (1 : Int32)) : Int32) >>> (1 &&& 31)) (3 : Int32) : Int32) (0 : Int32) (0 : Int32) : Int32)), (11, .int (q_whole z ((4 : Int32) + (lowW (lotW xs L (((2 : Int32) * x2) + (1 : Int32)) : Int32) (2 : Int32) : Int32)) : Int32))] [] := by
                      intro z_36 w h hdk
                      unfold p_L_law_j450 at h
                      refine v_iload cx dL_law_450 10 rfl ?_
                      have hj471 : ∀ (z_39 : DS) (w : va_W), p_L_law_j471 K65_888 x2 xs L z y_12 y_13 (p_L_law_65 L xs K65_179 K65_201 K65_309 K65_469 K65_570 K65_714 K65_824 K65_838 K65_888 K65_896 n) z_39 → DK cy q_p0 z_39 w → vV p l e room_1 s m #[Value.ref b] below meth c (lw_Z below #[Value.ref b] s) 14 D (fun q : Nat => s.heap.size ≤ q) (c9 + 8) (s9 + 48) w 471 [(0, .ref b), (1, .ref q_p0), (2, .int x2), (3, .int (lotW xs L ((2 : Int32) * x2) : Int32)), (4, .int (lotW xs L (((2 : Int32) * x2) + (1 : Int32)) : Int32)), (5, .int (q_whole z (0 : Int32) : Int32)), (6, .int y_12), (7, .int y_13), (8, .int (lowW (lotW xs L (((2 : Int32) * x2) + (1 : Int32)) : Int32) (2 : Int32) : Int32)), (9, .int (lowW ((lotW xs L (((2 : Int32) * x2) + (1 : Int32)) : Int32) >>> (1 &&& 31)) (3 : Int32) : Int32)), (10, .int (q_entry z (lowW (lotW xs L (((2 : Int32) * x2) + (1 : Int32)) : Int32) (2 : Int32) : Int32) (lowW ((lotW xs L (((2 : Int32) * x2) + (1 : Int32)) : Int32) >>> (1 &&& 31)) (3 : Int32) : Int32) (0 : Int32) (0 : Int32) : Int32)), (11, .int (q_whole z ((4 : Int32) + (lowW (lotW xs L (((2 : Int32) * x2) + (1 : Int32)) : Int32) (2 : Int32) : Int32)) : Int32))] [] := by
                        intro z_39 w h hdk
                        unfold p_L_law_j471 at h
                        refine v_goto (tgt := 840) cx dL_law_471 (by decide) ?_
                        refine v_lv (lv' := [(0, .ref b), (1, .ref q_p0), (2, .int x2), (3, .int (lotW xs L ((2 : Int32) * x2) : Int32)), (4, .int (lotW xs L (((2 : Int32) * x2) + (1 : Int32)) : Int32)), (5, .int (q_whole z (0 : Int32) : Int32)), (6, .int y_12), (7, .int y_13), (8, .int (lowW (lotW xs L (((2 : Int32) * x2) + (1 : Int32)) : Int32) (2 : Int32) : Int32)), (9, .int (lowW ((lotW xs L (((2 : Int32) * x2) + (1 : Int32)) : Int32) >>> (1 &&& 31)) (3 : Int32) : Int32))]) [0, 1, 2, 3, 4, 5, 6, 7, 8, 9] rfl ?_
                        refine v_widen (k9 := (c9 + 96)) (n9 := (s9 + 576)) (ob3 (c := c9) (d := 8) (e := 96) rfl) (ob3 (c := s9) (d := 48) (e := 576) rfl) ?_
                        exact hj840 z_39 _ h hdk
                      refine v_if_ge (tgt := 471) cx dL_law_452 (by decide) h (fun h => ?_) (fun h => ?_)
                      · refine v_lv (lv' := [(0, .ref b), (1, .ref q_p0), (2, .int x2), (3, .int (lotW xs L ((2 : Int32) * x2) : Int32)), (4, .int (lotW xs L (((2 : Int32) * x2) + (1 : Int32)) : Int32)), (5, .int (q_whole z (0 : Int32) : Int32)), (6, .int y_12), (7, .int y_13), (8, .int (lowW (lotW xs L (((2 : Int32) * x2) + (1 : Int32)) : Int32) (2 : Int32) : Int32)), (9, .int (lowW ((lotW xs L (((2 : Int32) * x2) + (1 : Int32)) : Int32) >>> (1 &&& 31)) (3 : Int32) : Int32)), (10, .int (q_entry z (lowW (lotW xs L (((2 : Int32) * x2) + (1 : Int32)) : Int32) (2 : Int32) : Int32) (lowW ((lotW xs L (((2 : Int32) * x2) + (1 : Int32)) : Int32) >>> (1 &&& 31)) (3 : Int32) : Int32) (0 : Int32) (0 : Int32) : Int32)), (11, .int (q_whole z ((4 : Int32) + (lowW (lotW xs L (((2 : Int32) * x2) + (1 : Int32)) : Int32) (2 : Int32) : Int32)) : Int32))]) [0, 1, 2, 3, 4, 5, 6, 7, 8, 9, 10, 11] rfl ?_
                        refine v_widen (k9 := (c9 + 8)) (n9 := (s9 + 48)) (ob3 (c := c9) (d := 7) (e := 8) rfl) (ob3 (c := s9) (d := 42) (e := 48) rfl) ?_
                        exact hj471 z_36 _ h hdk
                      · refine v_aload_n cx dL_law_455 rfl 1 rfl ?_
                        refine v_iload cx dL_law_456 8 rfl ?_
                        refine v_iload cx dL_law_458 9 rfl ?_
                        refine v_iconst (v := 0) cx dL_law_460 (by decide) ?_
                        refine a_removeEntry cx hl (by decide) ⟨(ob1 (c := c9) (d := 8) hc9 hcm rfl), (ob1 (c := s9) (d := 48) hs9 hsm rfl)⟩ (Nat.le_of_ble_eq_true rfl) dL_law_461 hdk (fun r_37 z_38 w hS hI hdk => ?_)
                        have h := h r_37 z_38 hS hI
                        refine v_ldc cx dL_law_464 wK_L_26 ?_
                        refine v_icmp_eq (tgt := 471) cx dL_law_466 (by decide) h (fun h => ?_) (fun h => ?_)
                        · refine v_lv (lv' := [(0, .ref b), (1, .ref q_p0), (2, .int x2), (3, .int (lotW xs L ((2 : Int32) * x2) : Int32)), (4, .int (lotW xs L (((2 : Int32) * x2) + (1 : Int32)) : Int32)), (5, .int (q_whole z (0 : Int32) : Int32)), (6, .int y_12), (7, .int y_13), (8, .int (lowW (lotW xs L (((2 : Int32) * x2) + (1 : Int32)) : Int32) (2 : Int32) : Int32)), (9, .int (lowW ((lotW xs L (((2 : Int32) * x2) + (1 : Int32)) : Int32) >>> (1 &&& 31)) (3 : Int32) : Int32)), (10, .int (q_entry z (lowW (lotW xs L (((2 : Int32) * x2) + (1 : Int32)) : Int32) (2 : Int32) : Int32) (lowW ((lotW xs L (((2 : Int32) * x2) + (1 : Int32)) : Int32) >>> (1 &&& 31)) (3 : Int32) : Int32) (0 : Int32) (0 : Int32) : Int32)), (11, .int (q_whole z ((4 : Int32) + (lowW (lotW xs L (((2 : Int32) * x2) + (1 : Int32)) : Int32) (2 : Int32) : Int32)) : Int32))]) [0, 1, 2, 3, 4, 5, 6, 7, 8, 9, 10, 11] rfl ?_
                          refine v_widen (k9 := (c9 + 8)) (n9 := (s9 + 48)) (ob3 (c := c9) (d := 8) (e := 8) rfl) (ob3 (c := s9) (d := 48) (e := 48) rfl) ?_
                          exact hj471 z_38 _ h hdk
                        · refine v_lv (lv' := [(0, .ref b), (1, .ref q_p0), (2, .int x2), (3, .int (lotW xs L ((2 : Int32) * x2) : Int32)), (4, .int (lotW xs L (((2 : Int32) * x2) + (1 : Int32)) : Int32)), (5, .int (q_whole z (0 : Int32) : Int32)), (6, .int y_12), (7, .int y_13), (8, .int (lowW (lotW xs L (((2 : Int32) * x2) + (1 : Int32)) : Int32) (2 : Int32) : Int32)), (9, .int (lowW ((lotW xs L (((2 : Int32) * x2) + (1 : Int32)) : Int32) >>> (1 &&& 31)) (3 : Int32) : Int32)), (10, .int (q_entry z (lowW (lotW xs L (((2 : Int32) * x2) + (1 : Int32)) : Int32) (2 : Int32) : Int32) (lowW ((lotW xs L (((2 : Int32) * x2) + (1 : Int32)) : Int32) >>> (1 &&& 31)) (3 : Int32) : Int32) (0 : Int32) (0 : Int32) : Int32)), (11, .int (q_whole z ((4 : Int32) + (lowW (lotW xs L (((2 : Int32) * x2) + (1 : Int32)) : Int32) (2 : Int32) : Int32)) : Int32))]) [0, 1, 2, 3, 4, 5, 6, 7, 8, 9, 10, 11] rfl ?_
                          refine v_widen (k9 := cm) (n9 := sm) (ob2 (c := c9) (d := 8) hc9 rfl) (ob2 (c := s9) (d := 48) hs9 rfl) ?_
                          exact hK469 _ _ _ _ _ _ _ _ _ _ _ _ h hdk
                    refine v_if_lt (tgt := 450) cx dL_law_408 (by decide) h (fun h => ?_) (fun h => ?_)
                    · refine v_lv (lv' := [(0, .ref b), (1, .ref q_p0), (2, .int x2), (3, .int (lotW xs L ((2 : Int32) * x2) : Int32)), (4, .int (lotW xs L (((2 : Int32) * x2) + (1 : Int32)) : Int32)), (5, .int (q_whole z (0 : Int32) : Int32)), (6, .int y_12), (7, .int y_13), (8, .int (lowW (lotW xs L (((2 : Int32) * x2) + (1 : Int32)) : Int32) (2 : Int32) : Int32)), (9, .int (lowW ((lotW xs L (((2 : Int32) * x2) + (1 : Int32)) : Int32) >>> (1 &&& 31)) (3 : Int32) : Int32)), (10, .int (q_entry z (lowW (lotW xs L (((2 : Int32) * x2) + (1 : Int32)) : Int32) (2 : Int32) : Int32) (lowW ((lotW xs L (((2 : Int32) * x2) + (1 : Int32)) : Int32) >>> (1 &&& 31)) (3 : Int32) : Int32) (0 : Int32) (0 : Int32) : Int32)), (11, .int (q_whole z ((4 : Int32) + (lowW (lotW xs L (((2 : Int32) * x2) + (1 : Int32)) : Int32) (2 : Int32) : Int32)) : Int32))]) [0, 1, 2, 3, 4, 5, 6, 7, 8, 9, 10, 11] rfl ?_
                      refine v_widen (k9 := (c9 + 7)) (n9 := (s9 + 42)) (ob3 (c := c9) (d := 5) (e := 7) rfl) (ob3 (c := s9) (d := 30) (e := 42) rfl) ?_
                      exact hj450 z_33 _ h hdk
                    · refine v_iload cx dL_law_411 4 rfl ?_
                      refine v_iconst (v := 4) cx dL_law_413 (by decide) ?_
                      refine v_ishr cx dL_law_414 ?_
                      refine v_iconst (v := 2) cx dL_law_415 (by decide) ?_
                      refine a_low cx (by decide) ⟨(ob1 (c := c9) (d := 5) hc9 hcm rfl), (ob1 (c := s9) (d := 30) hs9 hsm rfl)⟩ (Nat.le_of_ble_eq_true rfl) dL_law_416 (by decide) ?_
                      refine v_iconst (v := 1) cx dL_law_419 (by decide) ?_
                      refine v_icmp_ne (tgt := 450) cx dL_law_420 (by decide) h (fun h => ?_) (fun h => ?_)
                      · refine v_lv (lv' := [(0, .ref b), (1, .ref q_p0), (2, .int x2), (3, .int (lotW xs L ((2 : Int32) * x2) : Int32)), (4, .int (lotW xs L (((2 : Int32) * x2) + (1 : Int32)) : Int32)), (5, .int (q_whole z (0 : Int32) : Int32)), (6, .int y_12), (7, .int y_13), (8, .int (lowW (lotW xs L (((2 : Int32) * x2) + (1 : Int32)) : Int32) (2 : Int32) : Int32)), (9, .int (lowW ((lotW xs L (((2 : Int32) * x2) + (1 : Int32)) : Int32) >>> (1 &&& 31)) (3 : Int32) : Int32)), (10, .int (q_entry z (lowW (lotW xs L (((2 : Int32) * x2) + (1 : Int32)) : Int32) (2 : Int32) : Int32) (lowW ((lotW xs L (((2 : Int32) * x2) + (1 : Int32)) : Int32) >>> (1 &&& 31)) (3 : Int32) : Int32) (0 : Int32) (0 : Int32) : Int32)), (11, .int (q_whole z ((4 : Int32) + (lowW (lotW xs L (((2 : Int32) * x2) + (1 : Int32)) : Int32) (2 : Int32) : Int32)) : Int32))]) [0, 1, 2, 3, 4, 5, 6, 7, 8, 9, 10, 11] rfl ?_
                        refine v_widen (k9 := (c9 + 7)) (n9 := (s9 + 42)) (ob3 (c := c9) (d := 5) (e := 7) rfl) (ob3 (c := s9) (d := 30) (e := 42) rfl) ?_
                        exact hj450 z_33 _ h hdk
                      · refine v_aload_n cx dL_law_423 rfl 1 rfl ?_
                        refine v_iload cx dL_law_424 8 rfl ?_
                        refine v_iload cx dL_law_426 9 rfl ?_
                        refine v_iconst (v := 0) cx dL_law_428 (by decide) ?_
                        refine a_removeEntry cx hl (by decide) ⟨(ob1 (c := c9) (d := 6) hc9 hcm rfl), (ob1 (c := s9) (d := 36) hs9 hsm rfl)⟩ (Nat.le_of_ble_eq_true rfl) dL_law_429 hdk (fun r_34 z_35 w hS hI hdk => ?_)
                        have h := h r_34 z_35 hS hI
                        refine v_if_lt (tgt := 469) cx dL_law_432 (by decide) h (fun h => ?_) (fun h => ?_)
                        · refine v_lv (lv' := [(0, .ref b), (1, .ref q_p0), (2, .int x2), (3, .int (lotW xs L ((2 : Int32) * x2) : Int32)), (4, .int (lotW xs L (((2 : Int32) * x2) + (1 : Int32)) : Int32)), (5, .int (q_whole z (0 : Int32) : Int32)), (6, .int y_12), (7, .int y_13), (8, .int (lowW (lotW xs L (((2 : Int32) * x2) + (1 : Int32)) : Int32) (2 : Int32) : Int32)), (9, .int (lowW ((lotW xs L (((2 : Int32) * x2) + (1 : Int32)) : Int32) >>> (1 &&& 31)) (3 : Int32) : Int32)), (10, .int (q_entry z (lowW (lotW xs L (((2 : Int32) * x2) + (1 : Int32)) : Int32) (2 : Int32) : Int32) (lowW ((lotW xs L (((2 : Int32) * x2) + (1 : Int32)) : Int32) >>> (1 &&& 31)) (3 : Int32) : Int32) (0 : Int32) (0 : Int32) : Int32)), (11, .int (q_whole z ((4 : Int32) + (lowW (lotW xs L (((2 : Int32) * x2) + (1 : Int32)) : Int32) (2 : Int32) : Int32)) : Int32))]) [0, 1, 2, 3, 4, 5, 6, 7, 8, 9, 10, 11] rfl ?_
                          refine v_widen (k9 := cm) (n9 := sm) (ob2 (c := c9) (d := 6) hc9 rfl) (ob2 (c := s9) (d := 36) hs9 rfl) ?_
                          exact hK469 _ _ _ _ _ _ _ _ _ _ _ _ h hdk
                        · refine v_aload_n cx dL_law_435 rfl 1 rfl ?_
                          refine v_iconst (v := 4) cx dL_law_436 (by decide) ?_
                          refine v_iload cx dL_law_437 8 rfl ?_
                          refine v_iadd cx dL_law_439 ?_
                          refine a_whole cx hl (by decide) ⟨(ob1 (c := c9) (d := 7) hc9 hcm rfl), (ob1 (c := s9) (d := 42) hs9 hsm rfl)⟩ (Nat.le_of_ble_eq_true rfl) dL_law_440 hdk (fun w hdk => ?_)
                          refine v_iload cx dL_law_443 11 rfl ?_
                          refine v_iconst (v := 1) cx dL_law_445 (by decide) ?_
                          refine v_isub cx dL_law_446 ?_
                          refine v_icmp_ne (tgt := 469) cx dL_law_447 (by decide) h (fun h => ?_) (fun h => ?_)
                          · refine v_lv (lv' := [(0, .ref b), (1, .ref q_p0), (2, .int x2), (3, .int (lotW xs L ((2 : Int32) * x2) : Int32)), (4, .int (lotW xs L (((2 : Int32) * x2) + (1 : Int32)) : Int32)), (5, .int (q_whole z (0 : Int32) : Int32)), (6, .int y_12), (7, .int y_13), (8, .int (lowW (lotW xs L (((2 : Int32) * x2) + (1 : Int32)) : Int32) (2 : Int32) : Int32)), (9, .int (lowW ((lotW xs L (((2 : Int32) * x2) + (1 : Int32)) : Int32) >>> (1 &&& 31)) (3 : Int32) : Int32)), (10, .int (q_entry z (lowW (lotW xs L (((2 : Int32) * x2) + (1 : Int32)) : Int32) (2 : Int32) : Int32) (lowW ((lotW xs L (((2 : Int32) * x2) + (1 : Int32)) : Int32) >>> (1 &&& 31)) (3 : Int32) : Int32) (0 : Int32) (0 : Int32) : Int32)), (11, .int (q_whole z ((4 : Int32) + (lowW (lotW xs L (((2 : Int32) * x2) + (1 : Int32)) : Int32) (2 : Int32) : Int32)) : Int32))]) [0, 1, 2, 3, 4, 5, 6, 7, 8, 9, 10, 11] rfl ?_
                            refine v_widen (k9 := cm) (n9 := sm) (ob2 (c := c9) (d := 7) hc9 rfl) (ob2 (c := s9) (d := 42) hs9 rfl) ?_
                            exact hK469 _ _ _ _ _ _ _ _ _ _ _ _ h hdk
                          · refine v_lv (lv' := [(0, .ref b), (1, .ref q_p0), (2, .int x2), (3, .int (lotW xs L ((2 : Int32) * x2) : Int32)), (4, .int (lotW xs L (((2 : Int32) * x2) + (1 : Int32)) : Int32)), (5, .int (q_whole z (0 : Int32) : Int32)), (6, .int y_12), (7, .int y_13), (8, .int (lowW (lotW xs L (((2 : Int32) * x2) + (1 : Int32)) : Int32) (2 : Int32) : Int32)), (9, .int (lowW ((lotW xs L (((2 : Int32) * x2) + (1 : Int32)) : Int32) >>> (1 &&& 31)) (3 : Int32) : Int32)), (10, .int (q_entry z (lowW (lotW xs L (((2 : Int32) * x2) + (1 : Int32)) : Int32) (2 : Int32) : Int32) (lowW ((lotW xs L (((2 : Int32) * x2) + (1 : Int32)) : Int32) >>> (1 &&& 31)) (3 : Int32) : Int32) (0 : Int32) (0 : Int32) : Int32)), (11, .int (q_whole z ((4 : Int32) + (lowW (lotW xs L (((2 : Int32) * x2) + (1 : Int32)) : Int32) (2 : Int32) : Int32)) : Int32))]) [0, 1, 2, 3, 4, 5, 6, 7, 8, 9, 10, 11] rfl ?_
                            refine v_widen (k9 := (c9 + 7)) (n9 := (s9 + 42)) (ob3 (c := c9) (d := 7) (e := 7) rfl) (ob3 (c := s9) (d := 42) (e := 42) rfl) ?_
                            exact hj450 z_35 _ h hdk
                  refine v_if_lt (tgt := 406) cx dL_law_345 (by decide) h (fun h => ?_) (fun h => ?_)
                  · refine v_lv (lv' := [(0, .ref b), (1, .ref q_p0), (2, .int x2), (3, .int (lotW xs L ((2 : Int32) * x2) : Int32)), (4, .int (lotW xs L (((2 : Int32) * x2) + (1 : Int32)) : Int32)), (5, .int (q_whole z (0 : Int32) : Int32)), (6, .int y_12), (7, .int y_13), (8, .int (lowW (lotW xs L (((2 : Int32) * x2) + (1 : Int32)) : Int32) (2 : Int32) : Int32)), (9, .int (lowW ((lotW xs L (((2 : Int32) * x2) + (1 : Int32)) : Int32) >>> (1 &&& 31)) (3 : Int32) : Int32)), (10, .int (q_entry z (lowW (lotW xs L (((2 : Int32) * x2) + (1 : Int32)) : Int32) (2 : Int32) : Int32) (lowW ((lotW xs L (((2 : Int32) * x2) + (1 : Int32)) : Int32) >>> (1 &&& 31)) (3 : Int32) : Int32) (0 : Int32) (0 : Int32) : Int32)), (11, .int (q_whole z ((4 : Int32) + (lowW (lotW xs L (((2 : Int32) * x2) + (1 : Int32)) : Int32) (2 : Int32) : Int32)) : Int32))]) [2, 3, 4, 5, 6, 7, 8, 9, 10, 11, 1, 0] rfl ?_
                    refine v_widen (k9 := (c9 + 5)) (n9 := (s9 + 30)) (ob3 (c := c9) (d := 3) (e := 5) rfl) (ob3 (c := s9) (d := 18) (e := 30) rfl) ?_
                    exact hj406 z _ h hdk
                  · refine v_iload cx dL_law_348 6 rfl ?_
                    refine v_iconst (v := 4) cx dL_law_350 (by decide) ?_
                    refine v_ishr cx dL_law_351 ?_
                    refine v_iconst (v := 2) cx dL_law_352 (by decide) ?_
                    refine a_low cx (by decide) ⟨(ob1 (c := c9) (d := 3) hc9 hcm rfl), (ob1 (c := s9) (d := 18) hs9 hsm rfl)⟩ (Nat.le_of_ble_eq_true rfl) dL_law_353 (by decide) ?_
                    refine v_if_ne (tgt := 406) cx dL_law_356 (by decide) h (fun h => ?_) (fun h => ?_)
                    · refine v_lv (lv' := [(0, .ref b), (1, .ref q_p0), (2, .int x2), (3, .int (lotW xs L ((2 : Int32) * x2) : Int32)), (4, .int (lotW xs L (((2 : Int32) * x2) + (1 : Int32)) : Int32)), (5, .int (q_whole z (0 : Int32) : Int32)), (6, .int y_12), (7, .int y_13), (8, .int (lowW (lotW xs L (((2 : Int32) * x2) + (1 : Int32)) : Int32) (2 : Int32) : Int32)), (9, .int (lowW ((lotW xs L (((2 : Int32) * x2) + (1 : Int32)) : Int32) >>> (1 &&& 31)) (3 : Int32) : Int32)), (10, .int (q_entry z (lowW (lotW xs L (((2 : Int32) * x2) + (1 : Int32)) : Int32) (2 : Int32) : Int32) (lowW ((lotW xs L (((2 : Int32) * x2) + (1 : Int32)) : Int32) >>> (1 &&& 31)) (3 : Int32) : Int32) (0 : Int32) (0 : Int32) : Int32)), (11, .int (q_whole z ((4 : Int32) + (lowW (lotW xs L (((2 : Int32) * x2) + (1 : Int32)) : Int32) (2 : Int32) : Int32)) : Int32))]) [2, 3, 4, 5, 6, 7, 8, 9, 10, 11, 1, 0] rfl ?_
                      refine v_widen (k9 := (c9 + 5)) (n9 := (s9 + 30)) (ob3 (c := c9) (d := 3) (e := 5) rfl) (ob3 (c := s9) (d := 18) (e := 30) rfl) ?_
                      exact hj406 z _ h hdk
                    · refine v_aload_n cx dL_law_359 rfl 3 rfl ?_
                      refine v_iload cx dL_law_360 10 rfl ?_
                      refine v_iload cx dL_law_362 11 rfl ?_
                      refine v_iconst (v := 0) cx dL_law_364 (by decide) ?_
                      refine v_iload cx dL_law_365 6 rfl ?_
                      refine v_iconst (v := 5) cx dL_law_367 (by decide) ?_
                      refine v_ishr cx dL_law_368 ?_
                      refine v_sipush (v := 1001) cx dL_law_369 (by decide) ?_
                      refine a_low cx (by decide) ⟨(ob1 (c := c9) (d := 3) hc9 hcm rfl), (ob1 (c := s9) (d := 18) hs9 hsm rfl)⟩ (Nat.le_of_ble_eq_true rfl) dL_law_372 (by decide) ?_
                      refine a_setWeight cx hl (by decide) ⟨(ob1 (c := c9) (d := 4) hc9 hcm rfl), (ob1 (c := s9) (d := 24) hs9 hsm rfl)⟩ (Nat.le_of_ble_eq_true rfl) dL_law_375 hdk (fun r_31 z_32 w hS hI hdk => ?_)
                      have h := h r_31 z_32 hS hI
                      refine v_iload cx dL_law_378 1 rfl ?_
                      refine v_icmp_ne (tgt := 469) cx dL_law_380 (by decide) h (fun h => ?_) (fun h => ?_)
                      · refine v_lv (lv' := [(0, .ref b), (1, .ref q_p0), (2, .int x2), (3, .int (lotW xs L ((2 : Int32) * x2) : Int32)), (4, .int (lotW xs L (((2 : Int32) * x2) + (1 : Int32)) : Int32)), (5, .int (q_whole z (0 : Int32) : Int32)), (6, .int y_12), (7, .int y_13), (8, .int (lowW (lotW xs L (((2 : Int32) * x2) + (1 : Int32)) : Int32) (2 : Int32) : Int32)), (9, .int (lowW ((lotW xs L (((2 : Int32) * x2) + (1 : Int32)) : Int32) >>> (1 &&& 31)) (3 : Int32) : Int32)), (10, .int (q_entry z (lowW (lotW xs L (((2 : Int32) * x2) + (1 : Int32)) : Int32) (2 : Int32) : Int32) (lowW ((lotW xs L (((2 : Int32) * x2) + (1 : Int32)) : Int32) >>> (1 &&& 31)) (3 : Int32) : Int32) (0 : Int32) (0 : Int32) : Int32)), (11, .int (q_whole z ((4 : Int32) + (lowW (lotW xs L (((2 : Int32) * x2) + (1 : Int32)) : Int32) (2 : Int32) : Int32)) : Int32))]) [2, 3, 4, 5, 6, 7, 8, 9, 10, 11, 1, 0] rfl ?_
                        refine v_widen (k9 := cm) (n9 := sm) (ob2 (c := c9) (d := 4) hc9 rfl) (ob2 (c := s9) (d := 24) hs9 rfl) ?_
                        exact hK469 _ _ _ _ _ _ _ _ _ _ _ _ h hdk
                      · refine v_aload_n cx dL_law_383 rfl 3 rfl ?_
                        refine v_iload cx dL_law_384 10 rfl ?_
                        refine v_iload cx dL_law_386 11 rfl ?_
                        refine v_iconst (v := 0) cx dL_law_388 (by decide) ?_
                        refine v_iconst (v := 0) cx dL_law_389 (by decide) ?_
                        refine a_entry cx hl (by decide) ⟨(ob1 (c := c9) (d := 5) hc9 hcm rfl), (ob1 (c := s9) (d := 30) hs9 hsm rfl)⟩ (Nat.le_of_ble_eq_true rfl) dL_law_390 hdk (fun w hdk => ?_)
                        refine v_iload cx dL_law_393 6 rfl ?_
                        refine v_iconst (v := 5) cx dL_law_395 (by decide) ?_
                        refine v_ishr cx dL_law_396 ?_
                        refine v_sipush (v := 1001) cx dL_law_397 (by decide) ?_
                        refine a_low cx (by decide) ⟨(ob1 (c := c9) (d := 5) hc9 hcm rfl), (ob1 (c := s9) (d := 30) hs9 hsm rfl)⟩ (Nat.le_of_ble_eq_true rfl) dL_law_400 (by decide) ?_
                        refine v_icmp_ne (tgt := 469) cx dL_law_403 (by decide) h (fun h => ?_) (fun h => ?_)
                        · refine v_lv (lv' := [(0, .ref b), (1, .ref q_p0), (2, .int x2), (3, .int (lotW xs L ((2 : Int32) * x2) : Int32)), (4, .int (lotW xs L (((2 : Int32) * x2) + (1 : Int32)) : Int32)), (5, .int (q_whole z (0 : Int32) : Int32)), (6, .int y_12), (7, .int y_13), (8, .int (lowW (lotW xs L (((2 : Int32) * x2) + (1 : Int32)) : Int32) (2 : Int32) : Int32)), (9, .int (lowW ((lotW xs L (((2 : Int32) * x2) + (1 : Int32)) : Int32) >>> (1 &&& 31)) (3 : Int32) : Int32)), (10, .int (q_entry z (lowW (lotW xs L (((2 : Int32) * x2) + (1 : Int32)) : Int32) (2 : Int32) : Int32) (lowW ((lotW xs L (((2 : Int32) * x2) + (1 : Int32)) : Int32) >>> (1 &&& 31)) (3 : Int32) : Int32) (0 : Int32) (0 : Int32) : Int32)), (11, .int (q_whole z ((4 : Int32) + (lowW (lotW xs L (((2 : Int32) * x2) + (1 : Int32)) : Int32) (2 : Int32) : Int32)) : Int32))]) [2, 3, 4, 5, 6, 7, 8, 9, 10, 11, 1, 0] rfl ?_
                          refine v_widen (k9 := cm) (n9 := sm) (ob2 (c := c9) (d := 5) hc9 rfl) (ob2 (c := s9) (d := 30) hs9 rfl) ?_
                          exact hK469 _ _ _ _ _ _ _ _ _ _ _ _ h hdk
                        · refine v_lv (lv' := [(0, .ref b), (1, .ref q_p0), (2, .int x2), (3, .int (lotW xs L ((2 : Int32) * x2) : Int32)), (4, .int (lotW xs L (((2 : Int32) * x2) + (1 : Int32)) : Int32)), (5, .int (q_whole z (0 : Int32) : Int32)), (6, .int y_12), (7, .int y_13), (8, .int (lowW (lotW xs L (((2 : Int32) * x2) + (1 : Int32)) : Int32) (2 : Int32) : Int32)), (9, .int (lowW ((lotW xs L (((2 : Int32) * x2) + (1 : Int32)) : Int32) >>> (1 &&& 31)) (3 : Int32) : Int32)), (10, .int (q_entry z (lowW (lotW xs L (((2 : Int32) * x2) + (1 : Int32)) : Int32) (2 : Int32) : Int32) (lowW ((lotW xs L (((2 : Int32) * x2) + (1 : Int32)) : Int32) >>> (1 &&& 31)) (3 : Int32) : Int32) (0 : Int32) (0 : Int32) : Int32)), (11, .int (q_whole z ((4 : Int32) + (lowW (lotW xs L (((2 : Int32) * x2) + (1 : Int32)) : Int32) (2 : Int32) : Int32)) : Int32))]) [2, 3, 4, 5, 6, 7, 8, 9, 10, 11, 1, 0] rfl ?_
                          refine v_widen (k9 := (c9 + 5)) (n9 := (s9 + 30)) (ob3 (c := c9) (d := 5) (e := 5) rfl) (ob3 (c := s9) (d := 30) (e := 30) rfl) ?_
                          exact hj406 z_32 _ h hdk
              refine v_icmp_ge (tgt := 314) cx dL_law_207 (by decide) h (fun h => ?_) (fun h => ?_)
              · refine v_lv (lv' := [(0, .ref b), (1, .ref q_p0), (2, .int x2), (3, .int (lotW xs L ((2 : Int32) * x2) : Int32)), (4, .int (lotW xs L (((2 : Int32) * x2) + (1 : Int32)) : Int32)), (5, .int (q_whole z (0 : Int32) : Int32)), (6, .int y_12), (7, .int y_13), (8, .int (lowW (lotW xs L (((2 : Int32) * x2) + (1 : Int32)) : Int32) (2 : Int32) : Int32)), (9, .int (lowW ((lotW xs L (((2 : Int32) * x2) + (1 : Int32)) : Int32) >>> (1 &&& 31)) (3 : Int32) : Int32))]) [3, 4, 5, 6, 7, 8, 9, 2, 1, 0] rfl ?_
                refine v_widen (k9 := (c9 + 1)) (n9 := (s9 + 6)) (ob3 (c := c9) (d := 1) (e := 1) rfl) (ob3 (c := s9) (d := 6) (e := 6) rfl) ?_
                exact hj314 _ h hdk
              · refine v_iload cx dL_law_210 8 rfl ?_
                refine v_if_le (tgt := 314) cx dL_law_212 (by decide) h (fun h => ?_) (fun h => ?_)
                · refine v_lv (lv' := [(0, .ref b), (1, .ref q_p0), (2, .int x2), (3, .int (lotW xs L ((2 : Int32) * x2) : Int32)), (4, .int (lotW xs L (((2 : Int32) * x2) + (1 : Int32)) : Int32)), (5, .int (q_whole z (0 : Int32) : Int32)), (6, .int y_12), (7, .int y_13), (8, .int (lowW (lotW xs L (((2 : Int32) * x2) + (1 : Int32)) : Int32) (2 : Int32) : Int32)), (9, .int (lowW ((lotW xs L (((2 : Int32) * x2) + (1 : Int32)) : Int32) >>> (1 &&& 31)) (3 : Int32) : Int32))]) [3, 4, 5, 6, 7, 8, 9, 2, 1, 0] rfl ?_
                  refine v_widen (k9 := (c9 + 1)) (n9 := (s9 + 6)) (ob3 (c := c9) (d := 1) (e := 1) rfl) (ob3 (c := s9) (d := 6) (e := 6) rfl) ?_
                  exact hj314 _ h hdk
                · refine v_aload_n cx dL_law_215 rfl 4 rfl ?_
                  refine v_iload cx dL_law_216 2 rfl ?_
                  refine v_iconst (v := 1) cx dL_law_218 (by decide) ?_
                  refine a_variant cx hl (by decide) ⟨(ob1 (c := c9) (d := 2) hc9 hcm rfl), (ob1 (c := s9) (d := 12) hs9 hsm rfl)⟩ (Nat.le_of_ble_eq_true rfl) dL_law_219 hdk (fun w hdk => ?_)
                  refine v_istore (lv' := [(10, .int (q_variant z y_13 (1 : Int32) : Int32)), (9, .int (lowW ((lotW xs L (((2 : Int32) * x2) + (1 : Int32)) : Int32) >>> (1 &&& 31)) (3 : Int32) : Int32)), (8, .int (lowW (lotW xs L (((2 : Int32) * x2) + (1 : Int32)) : Int32) (2 : Int32) : Int32)), (7, .int y_13), (0, .ref b), (1, .ref q_p0), (2, .int x2), (3, .int (lotW xs L ((2 : Int32) * x2) : Int32)), (4, .int (lotW xs L (((2 : Int32) * x2) + (1 : Int32)) : Int32)), (5, .int (q_whole z (0 : Int32) : Int32)), (6, .int y_12)]) cx dL_law_222 (by decide) rfl ?_
                  refine v_aload_n cx dL_law_224 rfl 5 rfl ?_
                  refine v_iload cx dL_law_225 3 rfl ?_
                  refine v_iconst (v := 0) cx dL_law_227 (by decide) ?_
                  refine a_variant cx hl (by decide) ⟨(ob1 (c := c9) (d := 3) hc9 hcm rfl), (ob1 (c := s9) (d := 18) hs9 hsm rfl)⟩ (Nat.le_of_ble_eq_true rfl) dL_law_228 hdk (fun w hdk => ?_)
                  refine v_istore (lv' := [(11, .int (q_variant z y_13 (0 : Int32) : Int32)), (10, .int (q_variant z y_13 (1 : Int32) : Int32)), (9, .int (lowW ((lotW xs L (((2 : Int32) * x2) + (1 : Int32)) : Int32) >>> (1 &&& 31)) (3 : Int32) : Int32)), (8, .int (lowW (lotW xs L (((2 : Int32) * x2) + (1 : Int32)) : Int32) (2 : Int32) : Int32)), (7, .int y_13), (0, .ref b), (1, .ref q_p0), (2, .int x2), (3, .int (lotW xs L ((2 : Int32) * x2) : Int32)), (4, .int (lotW xs L (((2 : Int32) * x2) + (1 : Int32)) : Int32)), (5, .int (q_whole z (0 : Int32) : Int32)), (6, .int y_12)]) cx dL_law_231 (by decide) rfl ?_
                  refine v_aload_n cx dL_law_233 rfl 6 rfl ?_
                  refine v_iload cx dL_law_234 4 rfl ?_
                  refine v_iload cx dL_law_236 9 rfl ?_
                  refine v_sipush (v := 1001) cx dL_law_238 (by decide) ?_
                  refine a_low cx (by decide) ⟨(ob1 (c := c9) (d := 3) hc9 hcm rfl), (ob1 (c := s9) (d := 18) hs9 hsm rfl)⟩ (Nat.le_of_ble_eq_true rfl) dL_law_241 (by decide) ?_
                  refine a_setQuality cx hl (by decide) ⟨(ob1 (c := c9) (d := 4) hc9 hcm rfl), (ob1 (c := s9) (d := 24) hs9 hsm rfl)⟩ (Nat.le_of_ble_eq_true rfl) dL_law_244 hdk (fun r_14 z_15 w hS hI hdk => ?_)
                  have h := h r_14 z_15 hS hI
                  refine v_iload cx dL_law_247 1 rfl ?_
                  refine v_icmp_ne (tgt := 309) cx dL_law_249 (by decide) h (fun h => ?_) (fun h => ?_)
                  · refine v_lv (lv' := [(0, .ref b), (1, .ref q_p0), (2, .int x2), (3, .int (lotW xs L ((2 : Int32) * x2) : Int32)), (4, .int (lotW xs L (((2 : Int32) * x2) + (1 : Int32)) : Int32)), (5, .int (q_whole z (0 : Int32) : Int32)), (6, .int y_12), (7, .int y_13), (8, .int (lowW (lotW xs L (((2 : Int32) * x2) + (1 : Int32)) : Int32) (2 : Int32) : Int32)), (9, .int (lowW ((lotW xs L (((2 : Int32) * x2) + (1 : Int32)) : Int32) >>> (1 &&& 31)) (3 : Int32) : Int32)), (10, .int (q_variant z y_13 (1 : Int32) : Int32)), (11, .int (q_variant z y_13 (0 : Int32) : Int32))]) [5, 6, 7, 8, 9, 10, 11, 4, 3, 2, 1, 0] rfl ?_
                    refine v_widen (k9 := cm) (n9 := sm) (ob2 (c := c9) (d := 4) hc9 rfl) (ob2 (c := s9) (d := 24) hs9 rfl) ?_
                    exact hK309 _ _ _ _ _ _ _ _ _ _ _ _ h hdk
                  · refine v_aload_n cx dL_law_252 rfl 6 rfl ?_
                    refine v_iload cx dL_law_253 4 rfl ?_
                    refine v_iconst (v := 1) cx dL_law_255 (by decide) ?_
                    refine a_variant cx hl (by decide) ⟨(ob1 (c := c9) (d := 5) hc9 hcm rfl), (ob1 (c := s9) (d := 30) hs9 hsm rfl)⟩ (Nat.le_of_ble_eq_true rfl) dL_law_256 hdk (fun w hdk => ?_)
                    refine v_iload cx dL_law_259 9 rfl ?_
                    refine v_sipush (v := 1001) cx dL_law_261 (by decide) ?_
                    refine a_low cx (by decide) ⟨(ob1 (c := c9) (d := 5) hc9 hcm rfl), (ob1 (c := s9) (d := 30) hs9 hsm rfl)⟩ (Nat.le_of_ble_eq_true rfl) dL_law_264 (by decide) ?_
                    refine v_icmp_ne (tgt := 309) cx dL_law_267 (by decide) h (fun h => ?_) (fun h => ?_)
                    · refine v_lv (lv' := [(0, .ref b), (1, .ref q_p0), (2, .int x2), (3, .int (lotW xs L ((2 : Int32) * x2) : Int32)), (4, .int (lotW xs L (((2 : Int32) * x2) + (1 : Int32)) : Int32)), (5, .int (q_whole z (0 : Int32) : Int32)), (6, .int y_12), (7, .int y_13), (8, .int (lowW (lotW xs L (((2 : Int32) * x2) + (1 : Int32)) : Int32) (2 : Int32) : Int32)), (9, .int (lowW ((lotW xs L (((2 : Int32) * x2) + (1 : Int32)) : Int32) >>> (1 &&& 31)) (3 : Int32) : Int32)), (10, .int (q_variant z y_13 (1 : Int32) : Int32)), (11, .int (q_variant z y_13 (0 : Int32) : Int32))]) [5, 6, 7, 8, 9, 10, 11, 4, 3, 2, 1, 0] rfl ?_
                      refine v_widen (k9 := cm) (n9 := sm) (ob2 (c := c9) (d := 5) hc9 rfl) (ob2 (c := s9) (d := 30) hs9 rfl) ?_
                      exact hK309 _ _ _ _ _ _ _ _ _ _ _ _ h hdk
                    · refine v_aload_n cx dL_law_270 rfl 6 rfl ?_
                      refine v_iload cx dL_law_271 4 rfl ?_
                      refine v_iload cx dL_law_273 9 rfl ?_
                      refine v_iconst (v := 3) cx dL_law_275 (by decide) ?_
                      refine v_ishr cx dL_law_276 ?_
                      refine v_ldc cx dL_law_277 wK_L_199 ?_
                      refine a_low cx (by decide) ⟨(ob1 (c := c9) (d := 5) hc9 hcm rfl), (ob1 (c := s9) (d := 30) hs9 hsm rfl)⟩ (Nat.le_of_ble_eq_true rfl) dL_law_279 (by decide) ?_
                      refine a_setSize cx hl (by decide) ⟨(ob1 (c := c9) (d := 6) hc9 hcm rfl), (ob1 (c := s9) (d := 36) hs9 hsm rfl)⟩ (Nat.le_of_ble_eq_true rfl) dL_law_282 hdk (fun r_16 z_17 w hS hI hdk => ?_)
                      have h := h r_16 z_17 hS hI
                      refine v_iload cx dL_law_285 0 rfl ?_
                      refine v_icmp_ne (tgt := 309) cx dL_law_287 (by decide) h (fun h => ?_) (fun h => ?_)
                      · refine v_lv (lv' := [(0, .ref b), (1, .ref q_p0), (2, .int x2), (3, .int (lotW xs L ((2 : Int32) * x2) : Int32)), (4, .int (lotW xs L (((2 : Int32) * x2) + (1 : Int32)) : Int32)), (5, .int (q_whole z (0 : Int32) : Int32)), (6, .int y_12), (7, .int y_13), (8, .int (lowW (lotW xs L (((2 : Int32) * x2) + (1 : Int32)) : Int32) (2 : Int32) : Int32)), (9, .int (lowW ((lotW xs L (((2 : Int32) * x2) + (1 : Int32)) : Int32) >>> (1 &&& 31)) (3 : Int32) : Int32)), (10, .int (q_variant z y_13 (1 : Int32) : Int32)), (11, .int (q_variant z y_13 (0 : Int32) : Int32))]) [5, 6, 7, 8, 9, 10, 11, 4, 3, 2, 1, 0] rfl ?_
                        refine v_widen (k9 := cm) (n9 := sm) (ob2 (c := c9) (d := 6) hc9 rfl) (ob2 (c := s9) (d := 36) hs9 rfl) ?_
                        exact hK309 _ _ _ _ _ _ _ _ _ _ _ _ h hdk
                      · refine v_aload_n cx dL_law_290 rfl 6 rfl ?_
                        refine v_iload cx dL_law_291 4 rfl ?_
                        refine v_iconst (v := 0) cx dL_law_293 (by decide) ?_
                        refine a_variant cx hl (by decide) ⟨(ob1 (c := c9) (d := 7) hc9 hcm rfl), (ob1 (c := s9) (d := 42) hs9 hsm rfl)⟩ (Nat.le_of_ble_eq_true rfl) dL_law_294 hdk (fun w hdk => ?_)
                        refine v_iload cx dL_law_297 9 rfl ?_
                        refine v_iconst (v := 3) cx dL_law_299 (by decide) ?_
                        refine v_ishr cx dL_law_300 ?_
                        refine v_ldc cx dL_law_301 wK_L_199 ?_
                        refine a_low cx (by decide) ⟨(ob1 (c := c9) (d := 7) hc9 hcm rfl), (ob1 (c := s9) (d := 42) hs9 hsm rfl)⟩ (Nat.le_of_ble_eq_true rfl) dL_law_303 (by decide) ?_
                        refine v_icmp_eq (tgt := 311) cx dL_law_306 (by decide) h (fun h => ?_) (fun h => ?_)
                        · refine v_goto (tgt := 840) cx dL_law_311 (by decide) ?_
                          refine v_lv (lv' := [(0, .ref b), (1, .ref q_p0), (2, .int x2), (3, .int (lotW xs L ((2 : Int32) * x2) : Int32)), (4, .int (lotW xs L (((2 : Int32) * x2) + (1 : Int32)) : Int32)), (5, .int (q_whole z (0 : Int32) : Int32)), (6, .int y_12), (7, .int y_13), (8, .int (lowW (lotW xs L (((2 : Int32) * x2) + (1 : Int32)) : Int32) (2 : Int32) : Int32)), (9, .int (lowW ((lotW xs L (((2 : Int32) * x2) + (1 : Int32)) : Int32) >>> (1 &&& 31)) (3 : Int32) : Int32))]) [5, 6, 7, 8, 9, 10, 11, 4, 3, 2] rfl ?_
                          refine v_widen (k9 := (c9 + 96)) (n9 := (s9 + 576)) (ob3 (c := c9) (d := 7) (e := 96) rfl) (ob3 (c := s9) (d := 42) (e := 576) rfl) ?_
                          exact hj840 z_17 _ h hdk
                        · refine v_lv (lv' := [(0, .ref b), (1, .ref q_p0), (2, .int x2), (3, .int (lotW xs L ((2 : Int32) * x2) : Int32)), (4, .int (lotW xs L (((2 : Int32) * x2) + (1 : Int32)) : Int32)), (5, .int (q_whole z (0 : Int32) : Int32)), (6, .int y_12), (7, .int y_13), (8, .int (lowW (lotW xs L (((2 : Int32) * x2) + (1 : Int32)) : Int32) (2 : Int32) : Int32)), (9, .int (lowW ((lotW xs L (((2 : Int32) * x2) + (1 : Int32)) : Int32) >>> (1 &&& 31)) (3 : Int32) : Int32)), (10, .int (q_variant z y_13 (1 : Int32) : Int32)), (11, .int (q_variant z y_13 (0 : Int32) : Int32))]) [5, 6, 7, 8, 9, 10, 11, 4, 3, 2, 1, 0] rfl ?_
                          refine v_widen (k9 := cm) (n9 := sm) (ob2 (c := c9) (d := 7) hc9 rfl) (ob2 (c := s9) (d := 42) hs9 rfl) ?_
                          exact hK309 _ _ _ _ _ _ _ _ _ _ _ _ h hdk
            · refine v_aload_n cx dL_law_187 rfl 4 rfl ?_
              refine v_iload cx dL_law_188 1 rfl ?_
              refine v_iload cx dL_law_190 0 rfl ?_
              refine v_iload_n cx dL_law_192 rfl 6 rfl ?_
              refine v_iconst (v := 5) cx dL_law_193 (by decide) ?_
              refine v_ishr cx dL_law_194 ?_
              refine v_callSall2 (As := [.ref q_p0, .int (lowW (lotW xs L (((2 : Int32) * x2) + (1 : Int32)) : Int32) (2 : Int32) : Int32), .int (lowW ((lotW xs L (((2 : Int32) * x2) + (1 : Int32)) : Int32) >>> (1 &&& 31)) (3 : Int32) : Int32), .int ((lotW xs L ((2 : Int32) * x2) : Int32) >>> (5 &&& 31))]) (mc := 95) (ms := 570) cx (c_L_takes l hl g D cy hdk h) k_L_195 (by decide) ⟨rfl, rfl⟩ ⟨(ob1 (c := c9) (d := 96) hc9 hcm rfl), (ob1 (c := s9) (d := 576) hs9 hsm rfl)⟩ rfl rfl (Nat.le_of_ble_eq_true rfl) dL_law_195 (fun v9 w hp => ?_)
              obtain ⟨r_40, z_41, rfl, hdk, h⟩ := hp
              refine v_st (st' := [.int r_40]) rfl ?_
              refine v_if_ne (tgt := 840) cx dL_law_198 (by decide) h (fun h => ?_) (fun h => ?_)
              · refine v_lv (lv' := [(0, .ref b), (1, .ref q_p0), (2, .int x2), (3, .int (lotW xs L ((2 : Int32) * x2) : Int32)), (4, .int (lotW xs L (((2 : Int32) * x2) + (1 : Int32)) : Int32)), (5, .int (q_whole z (0 : Int32) : Int32)), (6, .int y_12), (7, .int y_13), (8, .int (lowW (lotW xs L (((2 : Int32) * x2) + (1 : Int32)) : Int32) (2 : Int32) : Int32)), (9, .int (lowW ((lotW xs L (((2 : Int32) * x2) + (1 : Int32)) : Int32) >>> (1 &&& 31)) (3 : Int32) : Int32))]) [3, 4, 5, 6, 7, 8, 9, 2, 1, 0] rfl ?_
                refine v_widen (k9 := (c9 + 96)) (n9 := (s9 + 576)) (ob3 (c := c9) (d := 96) (e := 96) rfl) (ob3 (c := s9) (d := 576) (e := 576) rfl) ?_
                exact hj840 z_41 _ h hdk
              · refine v_lv (lv' := [(0, .ref b), (1, .ref q_p0), (2, .int x2), (3, .int (lotW xs L ((2 : Int32) * x2) : Int32)), (4, .int (lotW xs L (((2 : Int32) * x2) + (1 : Int32)) : Int32)), (5, .int (q_whole z (0 : Int32) : Int32)), (6, .int y_12), (7, .int y_13), (8, .int (lowW (lotW xs L (((2 : Int32) * x2) + (1 : Int32)) : Int32) (2 : Int32) : Int32)), (9, .int (lowW ((lotW xs L (((2 : Int32) * x2) + (1 : Int32)) : Int32) >>> (1 &&& 31)) (3 : Int32) : Int32))]) [3, 4, 5, 6, 7, 8, 9, 2, 1, 0] rfl ?_
                refine v_widen (k9 := cm) (n9 := sm) (ob2 (c := c9) (d := 96) hc9 rfl) (ob2 (c := s9) (d := 576) hs9 rfl) ?_
                exact hK201 _ _ _ _ _ _ _ _ _ _ h hdk
          · refine v_aload_n cx dL_law_167 rfl 4 rfl ?_
            refine v_iload_n cx dL_law_168 rfl 6 rfl ?_
            refine v_iconst (v := 5) cx dL_law_169 (by decide) ?_
            refine v_ishr cx dL_law_170 ?_
            refine v_iload cx dL_law_171 7 rfl ?_
            refine v_callSall2 (As := [.ref q_p0, .int ((lotW xs L ((2 : Int32) * x2) : Int32) >>> (5 &&& 31)), .int (lotW xs L (((2 : Int32) * x2) + (1 : Int32)) : Int32)]) (mc := 30) (ms := 180) cx (c_L_adds l hl g D cy hdk h) k_L_191 (by decide) ⟨rfl, rfl⟩ ⟨(ob1 (c := c9) (d := 31) hc9 hcm rfl), (ob1 (c := s9) (d := 186) hs9 hsm rfl)⟩ rfl rfl (Nat.le_of_ble_eq_true rfl) dL_law_173 (fun v9 w hp => ?_)
            obtain ⟨r_42, z_43, rfl, hdk, h⟩ := hp
            refine v_st (st' := [.int r_42]) rfl ?_
            refine v_if_ne (tgt := 840) cx dL_law_176 (by decide) h (fun h => ?_) (fun h => ?_)
            · refine v_lv (lv' := [(0, .ref b), (1, .ref q_p0), (2, .int x2), (3, .int (lotW xs L ((2 : Int32) * x2) : Int32)), (4, .int (lotW xs L (((2 : Int32) * x2) + (1 : Int32)) : Int32)), (5, .int (q_whole z (0 : Int32) : Int32)), (6, .int y_12), (7, .int y_13), (8, .int (lowW (lotW xs L (((2 : Int32) * x2) + (1 : Int32)) : Int32) (2 : Int32) : Int32)), (9, .int (lowW ((lotW xs L (((2 : Int32) * x2) + (1 : Int32)) : Int32) >>> (1 &&& 31)) (3 : Int32) : Int32))]) [3, 4, 5, 6, 7, 8, 9, 2, 1, 0] rfl ?_
              refine v_widen (k9 := (c9 + 96)) (n9 := (s9 + 576)) (ob3 (c := c9) (d := 31) (e := 96) rfl) (ob3 (c := s9) (d := 186) (e := 576) rfl) ?_
              exact hj840 z_43 _ h hdk
            · refine v_lv (lv' := [(0, .ref b), (1, .ref q_p0), (2, .int x2), (3, .int (lotW xs L ((2 : Int32) * x2) : Int32)), (4, .int (lotW xs L (((2 : Int32) * x2) + (1 : Int32)) : Int32)), (5, .int (q_whole z (0 : Int32) : Int32)), (6, .int y_12), (7, .int y_13), (8, .int (lowW (lotW xs L (((2 : Int32) * x2) + (1 : Int32)) : Int32) (2 : Int32) : Int32)), (9, .int (lowW ((lotW xs L (((2 : Int32) * x2) + (1 : Int32)) : Int32) >>> (1 &&& 31)) (3 : Int32) : Int32))]) [3, 4, 5, 6, 7, 8, 9, 2, 1, 0] rfl ?_
              refine v_widen (k9 := cm) (n9 := sm) (ob2 (c := c9) (d := 31) hc9 rfl) (ob2 (c := s9) (d := 186) hs9 rfl) ?_
              exact hK179 _ _ _ _ _ _ _ _ _ _ h hdk
        refine v_if_ne (tgt := 133) cx dL_law_126 (by decide) h (fun h => ?_) (fun h => ?_)
        · refine v_iload_n cx dL_law_133 rfl 4 rfl ?_
          refine v_iconst (v := 5) cx dL_law_134 (by decide) ?_
          refine v_ishr cx dL_law_135 ?_
          refine v_iload cx dL_law_136 6 rfl ?_
          refine a_low cx (by decide) ⟨(ob1 (c := c9) (d := 1) hc9 hcm rfl), (ob1 (c := s9) (d := 6) hs9 hsm rfl)⟩ (Nat.le_of_ble_eq_true rfl) dL_law_138 h.1 ?_
          have h := h.2
          refine v_lv (lv' := [(0, .ref b), (1, .ref q_p0), (2, .int x2), (3, .int (lotW xs L ((2 : Int32) * x2) : Int32)), (4, .int (lotW xs L (((2 : Int32) * x2) + (1 : Int32)) : Int32)), (5, .int (q_whole z (0 : Int32) : Int32)), (6, .int y_12)]) [1, 2, 3, 4, 5, 6, 0] rfl ?_
          refine v_widen (k9 := (c9 + 1)) (n9 := (s9 + 6)) (ob3 (c := c9) (d := 1) (e := 1) rfl) (ob3 (c := s9) (d := 6) (e := 6) rfl) ?_
          exact hj141 (lowW ((lotW xs L ((2 : Int32) * x2) : Int32) >>> (5 &&& 31)) (q_whole z (0 : Int32) : Int32) : Int32) _ h hdk
        · refine v_iconst (v := 0) cx dL_law_129 (by decide) ?_
          refine v_goto (tgt := 141) cx dL_law_130 (by decide) ?_
          refine v_lv (lv' := [(0, .ref b), (1, .ref q_p0), (2, .int x2), (3, .int (lotW xs L ((2 : Int32) * x2) : Int32)), (4, .int (lotW xs L (((2 : Int32) * x2) + (1 : Int32)) : Int32)), (5, .int (q_whole z (0 : Int32) : Int32)), (6, .int y_12)]) [1, 2, 3, 4, 5, 6, 0] rfl ?_
          refine v_widen (k9 := (c9 + 1)) (n9 := (s9 + 6)) (ob3 (c := c9) (d := 1) (e := 1) rfl) (ob3 (c := s9) (d := 6) (e := 6) rfl) ?_
          exact hj141 0 _ h hdk
      refine v_icmp_ge (tgt := 106) cx dL_law_99 (by decide) h (fun h => ?_) (fun h => ?_)
      · refine v_iload_n cx dL_law_106 rfl 5 rfl ?_
        refine v_bipush (v := 9) cx dL_law_107 (by decide) ?_
        refine v_icmp_ge (tgt := 116) cx dL_law_109 (by decide) h (fun h => ?_) (fun h => ?_)
        · refine v_iload_n cx dL_law_116 rfl 2 rfl ?_
          refine v_bipush (v := 12) cx dL_law_117 (by decide) ?_
          refine a_low cx (by decide) ⟨(ob1 (c := c9) (d := 1) hc9 hcm rfl), (ob1 (c := s9) (d := 6) hs9 hsm rfl)⟩ (Nat.le_of_ble_eq_true rfl) dL_law_119 (by decide) ?_
          refine v_lv (lv' := [(0, .ref b), (1, .ref q_p0), (2, .int x2), (3, .int (lotW xs L ((2 : Int32) * x2) : Int32)), (4, .int (lotW xs L (((2 : Int32) * x2) + (1 : Int32)) : Int32)), (5, .int (q_whole z (0 : Int32) : Int32))]) [3, 4, 5, 2, 1, 0] rfl ?_
          refine v_widen (k9 := (c9 + 1)) (n9 := (s9 + 6)) (ob3 (c := c9) (d := 1) (e := 1) rfl) (ob3 (c := s9) (d := 6) (e := 6) rfl) ?_
          exact hj122 (lowW (lotW xs L ((2 : Int32) * x2) : Int32) (12 : Int32) : Int32) _ h hdk
        · refine v_iconst (v := 2) cx dL_law_112 (by decide) ?_
          refine v_goto (tgt := 122) cx dL_law_113 (by decide) ?_
          refine v_lv (lv' := [(0, .ref b), (1, .ref q_p0), (2, .int x2), (3, .int (lotW xs L ((2 : Int32) * x2) : Int32)), (4, .int (lotW xs L (((2 : Int32) * x2) + (1 : Int32)) : Int32)), (5, .int (q_whole z (0 : Int32) : Int32))]) [3, 4, 5, 2, 1, 0] rfl ?_
          refine v_widen (k9 := (c9 + 1)) (n9 := (s9 + 6)) (ob3 (c := c9) (d := 1) (e := 1) rfl) (ob3 (c := s9) (d := 6) (e := 6) rfl) ?_
          exact hj122 2 _ h hdk
      · refine v_iconst (v := 0) cx dL_law_102 (by decide) ?_
        refine v_goto (tgt := 122) cx dL_law_103 (by decide) ?_
        refine v_lv (lv' := [(0, .ref b), (1, .ref q_p0), (2, .int x2), (3, .int (lotW xs L ((2 : Int32) * x2) : Int32)), (4, .int (lotW xs L (((2 : Int32) * x2) + (1 : Int32)) : Int32)), (5, .int (q_whole z (0 : Int32) : Int32))]) [3, 4, 5, 2, 1, 0] rfl ?_
        refine v_widen (k9 := (c9 + 1)) (n9 := (s9 + 6)) (ob3 (c := c9) (d := 1) (e := 1) rfl) (ob3 (c := s9) (d := 6) (e := 6) rfl) ?_
        exact hj122 0 _ h hdk
set_option maxHeartbeats 40000000 in
set_option maxRecDepth 100000 in
theorem law_walk {p : Program} {l : Launch} {e : Env} {s : State} {m : MethodId} {below : List Frame} {meth : Method} {c : Code} {mn : String} {D : va_G} {cy : Nat → ClassId} {g : gT} {b L : Nat} {xs : Nat → Int32} (hX : va_X b L xs s s.heap) (hbl : b < s.heap.size) (cx : vC p s m #[Value.ref b] meth c code 14 ret RL mn lw_tbl D cy g (fun q : Nat => s.heap.size ≤ q)) (hl : l.stackTraces = false) (h : p_L_law xs L) : vV p l e room_1 s m #[Value.ref b] below meth c (lw_Z below #[Value.ref b] s) 14 D (fun q : Nat => s.heap.size ≤ q) 0 0 [] 0 [(0, .ref b)] [] := by
  have hbA : ¬ (fun q : Nat => s.heap.size ≤ q) b := Nat.not_le.mpr hbl
  unfold p_L_law at h
  refine a_new cx hl (by decide) ⟨Nat.le_of_ble_eq_true rfl, Nat.le_of_ble_eq_true rfl⟩ (Nat.le_of_ble_eq_true rfl) dL_law_0 dL_law_3 dL_law_4 (fun q_p0 w hdk => ?_)
  refine v_astore_n (lv' := [(1, .ref q_p0), (0, .ref b)]) cx dL_law_7 rfl (by decide) rfl ?_
  refine v_aload_n cx dL_law_8 rfl 0 rfl ?_
  refine v_callSall2 (As := [.ref q_p0]) (mc := 25) (ms := 150) cx (c_L_refuses l hl g D cy hdk h) k_L_174 (by decide) ⟨rfl, rfl⟩ ⟨(Nat.le_of_ble_eq_true rfl), (Nat.le_of_ble_eq_true rfl)⟩ rfl rfl (Nat.le_of_ble_eq_true rfl) dL_law_9 (fun v9 w hp => ?_)
  obtain ⟨r_1, z_2, rfl, hdk, h⟩ := hp
  refine v_st (st' := [.int r_1]) rfl ?_
  refine v_if_eq (tgt := 61) cx dL_law_12 (by decide) h (fun h => ?_) (fun h => ?_)
  · refine v_iconst (v := 0) cx dL_law_61 (by decide) ?_
    exact absurd h (by decide)
  · refine v_aload_n cx dL_law_15 rfl 0 rfl ?_
    refine a_undo cx hl (by decide) ⟨(Nat.le_of_ble_eq_true rfl), (Nat.le_of_ble_eq_true rfl)⟩ (Nat.le_of_ble_eq_true rfl) dL_law_16 hdk (fun r_3 z_4 w hS hI hdk => ?_)
    have h := h r_3 z_4 hS hI
    refine v_ldc cx dL_law_19 wK_L_20 ?_
    refine v_icmp_ne (tgt := 61) cx dL_law_21 (by decide) h (fun h => ?_) (fun h => ?_)
    · refine v_iconst (v := 0) cx dL_law_61 (by decide) ?_
      exact absurd h (by decide)
    · refine v_aload_n cx dL_law_24 rfl 0 rfl ?_
      refine v_callSall2 (As := [.ref q_p0]) (mc := 724) (ms := 4344) cx (c_L_sound l hl g D cy hdk h) k_L_178 (by decide) ⟨rfl, rfl⟩ ⟨(Nat.le_of_ble_eq_true rfl), (Nat.le_of_ble_eq_true rfl)⟩ rfl rfl (Nat.le_of_ble_eq_true rfl) dL_law_25 (fun v9 w hp => ?_)
      obtain ⟨r_5, rfl, hdk, h⟩ := hp
      refine v_st (st' := [.int r_5]) rfl ?_
      refine v_if_eq (tgt := 61) cx dL_law_28 (by decide) h (fun h => ?_) (fun h => ?_)
      · refine v_iconst (v := 0) cx dL_law_61 (by decide) ?_
        exact absurd h (by decide)
      · refine v_aload_n cx dL_law_31 rfl 0 rfl ?_
        refine v_callSall2 (As := [.ref q_p0]) (mc := 1933) (ms := 11598) cx (c_L_lists l hl g D cy hdk h) k_L_181 (by decide) ⟨rfl, rfl⟩ ⟨(Nat.le_of_ble_eq_true rfl), (Nat.le_of_ble_eq_true rfl)⟩ rfl rfl (Nat.le_of_ble_eq_true rfl) dL_law_32 (fun v9 w hp => ?_)
        obtain ⟨r_6, rfl, hdk, h⟩ := hp
        refine v_st (st' := [.int r_6]) rfl ?_
        refine v_if_eq (tgt := 61) cx dL_law_35 (by decide) h (fun h => ?_) (fun h => ?_)
        · refine v_iconst (v := 0) cx dL_law_61 (by decide) ?_
          exact absurd h (by decide)
        · refine v_aload_n cx dL_law_38 rfl 0 rfl ?_
          refine v_callSall2 (As := [.ref q_p0]) (mc := 1221) (ms := 7326) cx (c_L_listing l hl g D cy hdk h) k_L_184 (by decide) ⟨rfl, rfl⟩ ⟨(Nat.le_of_ble_eq_true rfl), (Nat.le_of_ble_eq_true rfl)⟩ rfl rfl (Nat.le_of_ble_eq_true rfl) dL_law_39 (fun v9 w hp => ?_)
          obtain ⟨r_7, rfl, hdk, h⟩ := hp
          refine v_st (st' := [.int r_7]) rfl ?_
          refine v_if_eq (tgt := 61) cx dL_law_42 (by decide) h (fun h => ?_) (fun h => ?_)
          · refine v_iconst (v := 0) cx dL_law_61 (by decide) ?_
            exact absurd h (by decide)
          · refine v_aload_n cx dL_law_45 rfl 0 rfl ?_
            refine v_iconst (v := 0) cx dL_law_46 (by decide) ?_
            refine v_iconst (v := 0) cx dL_law_47 (by decide) ?_
            refine a_takeList cx hl (by decide) ⟨(Nat.le_of_ble_eq_true rfl), (Nat.le_of_ble_eq_true rfl)⟩ (Nat.le_of_ble_eq_true rfl) dL_law_48 hdk (fun r_8 z_9 w hS hI hdk => ?_)
            have h := h r_8 z_9 hS hI
            refine v_if_ne (tgt := 61) cx dL_law_51 (by decide) h (fun h => ?_) (fun h => ?_)
            · refine v_iconst (v := 0) cx dL_law_61 (by decide) ?_
              exact absurd h (by decide)
            · refine v_aload_n cx dL_law_54 rfl 0 rfl ?_
              refine a_undo cx hl (by decide) ⟨(Nat.le_of_ble_eq_true rfl), (Nat.le_of_ble_eq_true rfl)⟩ (Nat.le_of_ble_eq_true rfl) dL_law_55 hdk (fun r_10 z_11 w hS hI hdk => ?_)
              have h := h r_10 z_11 hS hI
              refine v_if_eq (tgt := 63) cx dL_law_58 (by decide) h (fun h => ?_) (fun h => ?_)
              · refine v_iconst (v := 0) cx dL_law_63 (by decide) ?_
                refine v_istore_n (lv' := [(2, .int 0), (1, .ref q_p0), (0, .ref b)]) cx dL_law_64 rfl (by decide) rfl ?_
                refine v_lv (lv' := [(0, .ref b), (1, .ref q_p0), (2, .int 0)]) [2, 1, 0] rfl ?_
                refine w_L_law_65 hX hbl cx hl (cm := 127699) (sm := 768568) (Nat.le_of_ble_eq_true rfl) (Nat.le_of_ble_eq_true rfl) ?_ ?_ ?_ ?_ ?_ ?_ ?_ ?_ ?_ ?_ 31 _ _ (Nat.le_refl _) (Nat.le_refl _) _ _ _ h hdk
                · intro x2_50 z_51 x3_52 x4_53 x5_54 x6_55 x7_56 x8_57 x9_58 w h hdk
                  refine v_iconst (v := 0) cx dL_law_179 (by decide) ?_
                  exact absurd h (by decide)
                · intro x2_59 z_60 x3_61 x4_62 x5_63 x6_64 x7_65 x8_66 x9_67 w h hdk
                  refine v_iconst (v := 0) cx dL_law_201 (by decide) ?_
                  exact absurd h (by decide)
                · intro x2_68 z_69 x3_70 x4_71 x5_72 x6_73 x7_74 x8_75 x9_76 x10_77 x11_78 w h hdk
                  refine v_iconst (v := 0) cx dL_law_309 (by decide) ?_
                  exact absurd h (by decide)
                · intro x2_79 z_80 x3_81 x4_82 x5_83 x6_84 x7_85 x8_86 x9_87 x10_88 x11_89 w h hdk
                  refine v_iconst (v := 0) cx dL_law_469 (by decide) ?_
                  exact absurd h (by decide)
                · intro x2_90 z_91 x3_92 x4_93 x5_94 x6_95 x7_96 x8_97 x9_98 x10_99 w h hdk
                  refine v_iconst (v := 0) cx dL_law_570 (by decide) ?_
                  exact absurd h (by decide)
                · intro x2_100 z_101 x3_102 x4_103 x5_104 x6_105 x7_106 x8_107 x9_108 x10_109 x11_110 x12_111 x13_112 w h hdk
                  refine v_iconst (v := 0) cx dL_law_714 (by decide) ?_
                  exact absurd h (by decide)
                · intro x2_113 z_114 x3_115 x4_116 x5_117 x6_118 x7_119 x8_120 x9_121 x10_122 w h hdk
                  refine v_iconst (v := 0) cx dL_law_824 (by decide) ?_
                  exact absurd h (by decide)
                · intro x2_123 z_124 x3_125 x4_126 x5_127 x6_128 x7_129 x8_130 x9_131 w h hdk
                  refine v_iconst (v := 0) cx dL_law_838 (by decide) ?_
                  exact absurd h (by decide)
                · intro x2_132 z_133 x3_134 x4_135 x5_136 x6_137 x7_138 x8_139 x9_140 w h hdk
                  refine v_iconst (v := 0) cx dL_law_888 (by decide) ?_
                  exact absurd h (by decide)
                · intro x2_141 z_142 w h hdk
                  refine v_aload_n cx dL_law_896 rfl 1 rfl ?_
                  refine v_callSall2 (As := [.ref q_p0]) (mc := 25) (ms := 150) cx (c_L_refuses l hl g D cy hdk h) k_L_174 (by decide) ⟨rfl, rfl⟩ ⟨(Nat.le_of_ble_eq_true rfl), (Nat.le_of_ble_eq_true rfl)⟩ rfl rfl (Nat.le_of_ble_eq_true rfl) dL_law_897 (fun v9 w hp => ?_)
                  obtain ⟨r_143, z_144, rfl, hdk, h⟩ := hp
                  refine v_st (st' := [.int r_143]) rfl ?_
                  rw [h]
                  exact law_ret cx (Nat.le_of_ble_eq_true rfl) (Nat.le_of_ble_eq_true rfl) dL_law_900
              · refine v_iconst (v := 0) cx dL_law_61 (by decide) ?_
                exact absurd h (by decide)

abbrev rm_L_adds : Room := { frames := 10, cells := 30, slots := 180, locals := 178 }
set_option maxHeartbeats 40000000 in
set_option maxRecDepth 100000 in
theorem c_L_adds (l : Launch) (hl : l.stackTraces = false) (g : gT) (D : va_G) (cy : Nat → ClassId) {q_p0 : Nat} {z : DS} {x1 : Int32} {x2 : Int32} {w : va_W} {Q : Int32 → DS → Prop} (hdk : DK cy q_p0 z w) (h : p_L_adds z x1 x2 Q) : UC l yL_adds cL_adds 6 (some .boolean) rm_L_adds g D cy [.ref q_p0, .int x1, .int x2] w (fun v w => ∃ (r : Int32) (z' : DS), v = some (.int r) ∧ DK cy q_p0 z' w ∧ Q r z') := by
  refine UC_of (by decide +kernel) (Nat.le_of_ble_eq_true rfl) [(0, .ref q_p0), (1, .int x1), (2, .int x2)] rfl (fun p e s m args below meth c A cx => ?_)
  unfold p_L_adds at h
  refine v_aload_n cx dL_adds_0 rfl 0 rfl ?_
  refine a_clearText cx (by decide) ⟨(Nat.le_of_ble_eq_true rfl), (Nat.le_of_ble_eq_true rfl)⟩ (Nat.le_of_ble_eq_true rfl) dL_adds_1 hdk (fun r_1 z_2 w hS hI hdk => ?_)
  have h := h r_1 z_2 hS hI
  refine v_pop cx dL_adds_4 rfl ?_
  refine v_aload_n cx dL_adds_5 rfl 0 rfl ?_
  refine v_iload_n cx dL_adds_6 rfl 1 rfl ?_
  refine v_callSall2 (As := [.ref q_p0, .int x1]) (mc := 3) (ms := 18) cx (c_L_name l hl g D cy hdk h) k_L_153 (by decide) ⟨rfl, rfl⟩ ⟨(Nat.le_of_ble_eq_true rfl), (Nat.le_of_ble_eq_true rfl)⟩ rfl rfl (Nat.le_of_ble_eq_true rfl) dL_adds_7 (fun v9 w hp => ?_)
  obtain ⟨r_3, z_4, rfl, hdk, h⟩ := hp
  refine v_st (st' := [.int r_3]) rfl ?_
  refine v_aload_n cx dL_adds_10 rfl 0 rfl ?_
  refine v_bipush (v := 47) cx dL_adds_11 (by decide) ?_
  refine v_callSall2 (As := [.ref q_p0, .int (47 : Int32)]) (mc := 1) (ms := 6) cx (c_L_put l hl g D cy hdk h) k_L_147 (by decide) ⟨rfl, rfl⟩ ⟨(Nat.le_of_ble_eq_true rfl), (Nat.le_of_ble_eq_true rfl)⟩ rfl rfl (Nat.le_of_ble_eq_true rfl) dL_adds_13 (fun v9 w hp => ?_)
  obtain ⟨r_5, z_6, rfl, hdk, h⟩ := hp
  refine v_st (st' := [.int r_5, .int r_3]) rfl ?_
  refine v_iadd cx dL_adds_16 ?_
  refine v_aload_n cx dL_adds_17 rfl 0 rfl ?_
  refine v_iload_n cx dL_adds_18 rfl 1 rfl ?_
  refine v_iconst (v := 3) cx dL_adds_19 (by decide) ?_
  refine v_ishr cx dL_adds_20 ?_
  refine v_callSall2 (As := [.ref q_p0, .int (x1 >>> (3 &&& 31))]) (mc := 3) (ms := 18) cx (c_L_name l hl g D cy hdk h) k_L_153 (by decide) ⟨rfl, rfl⟩ ⟨(Nat.le_of_ble_eq_true rfl), (Nat.le_of_ble_eq_true rfl)⟩ rfl rfl (Nat.le_of_ble_eq_true rfl) dL_adds_21 (fun v9 w hp => ?_)
  obtain ⟨r_7, z_8, rfl, hdk, h⟩ := hp
  refine v_st (st' := [.int r_7, .int (r_3 + r_5)]) rfl ?_
  refine v_iadd cx dL_adds_24 ?_
  refine v_aload_n cx dL_adds_25 rfl 0 rfl ?_
  refine v_bipush (v := 32) cx dL_adds_26 (by decide) ?_
  refine v_callSall2 (As := [.ref q_p0, .int (32 : Int32)]) (mc := 1) (ms := 6) cx (c_L_put l hl g D cy hdk h) k_L_147 (by decide) ⟨rfl, rfl⟩ ⟨(Nat.le_of_ble_eq_true rfl), (Nat.le_of_ble_eq_true rfl)⟩ rfl rfl (Nat.le_of_ble_eq_true rfl) dL_adds_28 (fun v9 w hp => ?_)
  obtain ⟨r_9, z_10, rfl, hdk, h⟩ := hp
  refine v_st (st' := [.int r_9, .int ((r_3 + r_5) + r_7)]) rfl ?_
  refine v_iadd cx dL_adds_31 ?_
  refine v_aload_n cx dL_adds_32 rfl 0 rfl ?_
  refine v_iload_n cx dL_adds_33 rfl 1 rfl ?_
  refine v_bipush (v := 6) cx dL_adds_34 (by decide) ?_
  refine v_ishr cx dL_adds_36 ?_
  refine v_callSall2 (As := [.ref q_p0, .int (x1 >>> (6 &&& 31))]) (mc := 3) (ms := 18) cx (c_L_name l hl g D cy hdk h) k_L_153 (by decide) ⟨rfl, rfl⟩ ⟨(Nat.le_of_ble_eq_true rfl), (Nat.le_of_ble_eq_true rfl)⟩ rfl rfl (Nat.le_of_ble_eq_true rfl) dL_adds_37 (fun v9 w hp => ?_)
  obtain ⟨r_11, z_12, rfl, hdk, h⟩ := hp
  refine v_st (st' := [.int r_11, .int (((r_3 + r_5) + r_7) + r_9)]) rfl ?_
  refine v_iadd cx dL_adds_40 ?_
  refine v_aload_n cx dL_adds_41 rfl 0 rfl ?_
  refine v_bipush (v := 45) cx dL_adds_42 (by decide) ?_
  refine v_callSall2 (As := [.ref q_p0, .int (45 : Int32)]) (mc := 1) (ms := 6) cx (c_L_put l hl g D cy hdk h) k_L_147 (by decide) ⟨rfl, rfl⟩ ⟨(Nat.le_of_ble_eq_true rfl), (Nat.le_of_ble_eq_true rfl)⟩ rfl rfl (Nat.le_of_ble_eq_true rfl) dL_adds_44 (fun v9 w hp => ?_)
  obtain ⟨r_13, z_14, rfl, hdk, h⟩ := hp
  refine v_st (st' := [.int r_13, .int ((((r_3 + r_5) + r_7) + r_9) + r_11)]) rfl ?_
  refine v_iadd cx dL_adds_47 ?_
  refine v_aload_n cx dL_adds_48 rfl 0 rfl ?_
  refine v_iload_n cx dL_adds_49 rfl 1 rfl ?_
  refine v_bipush (v := 9) cx dL_adds_50 (by decide) ?_
  refine v_ishr cx dL_adds_52 ?_
  refine v_callSall2 (As := [.ref q_p0, .int (x1 >>> (9 &&& 31))]) (mc := 3) (ms := 18) cx (c_L_name l hl g D cy hdk h) k_L_153 (by decide) ⟨rfl, rfl⟩ ⟨(Nat.le_of_ble_eq_true rfl), (Nat.le_of_ble_eq_true rfl)⟩ rfl rfl (Nat.le_of_ble_eq_true rfl) dL_adds_53 (fun v9 w hp => ?_)
  obtain ⟨r_15, z_16, rfl, hdk, h⟩ := hp
  refine v_st (st' := [.int r_15, .int (((((r_3 + r_5) + r_7) + r_9) + r_11) + r_13)]) rfl ?_
  refine v_iadd cx dL_adds_56 ?_
  refine v_aload_n cx dL_adds_57 rfl 0 rfl ?_
  refine v_bipush (v := 32) cx dL_adds_58 (by decide) ?_
  refine v_callSall2 (As := [.ref q_p0, .int (32 : Int32)]) (mc := 1) (ms := 6) cx (c_L_put l hl g D cy hdk h) k_L_147 (by decide) ⟨rfl, rfl⟩ ⟨(Nat.le_of_ble_eq_true rfl), (Nat.le_of_ble_eq_true rfl)⟩ rfl rfl (Nat.le_of_ble_eq_true rfl) dL_adds_60 (fun v9 w hp => ?_)
  obtain ⟨r_17, z_18, rfl, hdk, h⟩ := hp
  refine v_st (st' := [.int r_17, .int ((((((r_3 + r_5) + r_7) + r_9) + r_11) + r_13) + r_15)]) rfl ?_
  refine v_iadd cx dL_adds_63 ?_
  refine v_aload_n cx dL_adds_64 rfl 0 rfl ?_
  refine v_iload_n cx dL_adds_65 rfl 1 rfl ?_
  refine v_bipush (v := 12) cx dL_adds_66 (by decide) ?_
  refine v_ishr cx dL_adds_68 ?_
  refine v_callSall2 (As := [.ref q_p0, .int (x1 >>> (12 &&& 31))]) (mc := 3) (ms := 18) cx (c_L_name l hl g D cy hdk h) k_L_153 (by decide) ⟨rfl, rfl⟩ ⟨(Nat.le_of_ble_eq_true rfl), (Nat.le_of_ble_eq_true rfl)⟩ rfl rfl (Nat.le_of_ble_eq_true rfl) dL_adds_69 (fun v9 w hp => ?_)
  obtain ⟨r_19, z_20, rfl, hdk, h⟩ := hp
  refine v_st (st' := [.int r_19, .int (((((((r_3 + r_5) + r_7) + r_9) + r_11) + r_13) + r_15) + r_17)]) rfl ?_
  refine v_iadd cx dL_adds_72 ?_
  refine v_aload_n cx dL_adds_73 rfl 0 rfl ?_
  refine v_bipush (v := 32) cx dL_adds_74 (by decide) ?_
  refine v_callSall2 (As := [.ref q_p0, .int (32 : Int32)]) (mc := 1) (ms := 6) cx (c_L_put l hl g D cy hdk h) k_L_147 (by decide) ⟨rfl, rfl⟩ ⟨(Nat.le_of_ble_eq_true rfl), (Nat.le_of_ble_eq_true rfl)⟩ rfl rfl (Nat.le_of_ble_eq_true rfl) dL_adds_76 (fun v9 w hp => ?_)
  obtain ⟨r_21, z_22, rfl, hdk, h⟩ := hp
  refine v_st (st' := [.int r_21, .int ((((((((r_3 + r_5) + r_7) + r_9) + r_11) + r_13) + r_15) + r_17) + r_19)]) rfl ?_
  refine v_iadd cx dL_adds_79 ?_
  refine v_aload_n cx dL_adds_80 rfl 0 rfl ?_
  refine v_bipush (v := 49) cx dL_adds_81 (by decide) ?_
  refine v_iload_n cx dL_adds_83 rfl 2 rfl ?_
  refine v_bipush (v := 9) cx dL_adds_84 (by decide) ?_
  refine a_low cx (by decide) ⟨(Nat.le_of_ble_eq_true rfl), (Nat.le_of_ble_eq_true rfl)⟩ (Nat.le_of_ble_eq_true rfl) dL_adds_86 (by decide) ?_
  refine v_iadd cx dL_adds_89 ?_
  refine v_callSall2 (As := [.ref q_p0, .int ((49 : Int32) + (lowW x2 (9 : Int32) : Int32))]) (mc := 1) (ms := 6) cx (c_L_put l hl g D cy hdk h) k_L_147 (by decide) ⟨rfl, rfl⟩ ⟨(Nat.le_of_ble_eq_true rfl), (Nat.le_of_ble_eq_true rfl)⟩ rfl rfl (Nat.le_of_ble_eq_true rfl) dL_adds_90 (fun v9 w hp => ?_)
  obtain ⟨r_23, z_24, rfl, hdk, h⟩ := hp
  refine v_st (st' := [.int r_23, .int (((((((((r_3 + r_5) + r_7) + r_9) + r_11) + r_13) + r_15) + r_17) + r_19) + r_21)]) rfl ?_
  refine v_iadd cx dL_adds_93 ?_
  refine v_aload_n cx dL_adds_94 rfl 0 rfl ?_
  refine v_bipush (v := 48) cx dL_adds_95 (by decide) ?_
  refine v_iload_n cx dL_adds_97 rfl 2 rfl ?_
  refine v_iconst (v := 4) cx dL_adds_98 (by decide) ?_
  refine v_ishr cx dL_adds_99 ?_
  refine v_bipush (v := 10) cx dL_adds_100 (by decide) ?_
  refine a_low cx (by decide) ⟨(Nat.le_of_ble_eq_true rfl), (Nat.le_of_ble_eq_true rfl)⟩ (Nat.le_of_ble_eq_true rfl) dL_adds_102 (by decide) ?_
  refine v_iadd cx dL_adds_105 ?_
  refine v_callSall2 (As := [.ref q_p0, .int ((48 : Int32) + (lowW (x2 >>> (4 &&& 31)) (10 : Int32) : Int32))]) (mc := 1) (ms := 6) cx (c_L_put l hl g D cy hdk h) k_L_147 (by decide) ⟨rfl, rfl⟩ ⟨(Nat.le_of_ble_eq_true rfl), (Nat.le_of_ble_eq_true rfl)⟩ rfl rfl (Nat.le_of_ble_eq_true rfl) dL_adds_106 (fun v9 w hp => ?_)
  obtain ⟨r_25, z_26, rfl, hdk, h⟩ := hp
  refine v_st (st' := [.int r_25, .int ((((((((((r_3 + r_5) + r_7) + r_9) + r_11) + r_13) + r_15) + r_17) + r_19) + r_21) + r_23)]) rfl ?_
  refine v_iadd cx dL_adds_109 ?_
  refine v_istore_n (lv' := [(3, .int (((((((((((r_3 + r_5) + r_7) + r_9) + r_11) + r_13) + r_15) + r_17) + r_19) + r_21) + r_23) + r_25)), (0, .ref q_p0), (1, .int x1), (2, .int x2)]) cx dL_adds_110 rfl (by decide) rfl ?_
  refine v_aload_n cx dL_adds_111 rfl 1 rfl ?_
  refine v_iconst (v := 0) cx dL_adds_112 (by decide) ?_
  refine a_whole cx hl (by decide) ⟨(Nat.le_of_ble_eq_true rfl), (Nat.le_of_ble_eq_true rfl)⟩ (Nat.le_of_ble_eq_true rfl) dL_adds_113 hdk (fun w hdk => ?_)
  refine v_istore (lv' := [(4, .int (q_whole z_26 (0 : Int32) : Int32)), (3, .int (((((((((((r_3 + r_5) + r_7) + r_9) + r_11) + r_13) + r_15) + r_17) + r_19) + r_21) + r_23) + r_25)), (0, .ref q_p0), (1, .int x1), (2, .int x2)]) cx dL_adds_116 (by decide) rfl ?_
  refine v_aload_n cx dL_adds_118 rfl 2 rfl ?_
  refine a_variantFault cx (by decide) ⟨(Nat.le_of_ble_eq_true rfl), (Nat.le_of_ble_eq_true rfl)⟩ (Nat.le_of_ble_eq_true rfl) dL_adds_119 hdk (fun w hdk => ?_)
  refine v_iconst (v := (-1)) cx dL_adds_122 (by decide) ?_
  refine v_icmp_ne (tgt := 144) cx dL_adds_123 (by decide) h (fun h => ?_) (fun h => ?_)
  · refine v_iconst (v := 0) cx dL_adds_144 (by decide) ?_
    refine v_widen (k9 := 30) (n9 := 180) (Nat.le_of_ble_eq_true rfl) (Nat.le_of_ble_eq_true rfl) ?_
    exact v_ireturn cx rfl dL_adds_145 ⟨_, _, rfl, hdk, h⟩
  · refine v_aload_n cx dL_adds_126 rfl 2 rfl ?_
    refine v_bipush (v := 6) cx dL_adds_127 (by decide) ?_
    refine a_whole cx hl (by decide) ⟨(Nat.le_of_ble_eq_true rfl), (Nat.le_of_ble_eq_true rfl)⟩ (Nat.le_of_ble_eq_true rfl) dL_adds_129 hdk (fun w hdk => ?_)
    refine v_iload_n cx dL_adds_132 rfl 1 rfl ?_
    refine v_icmp_ne (tgt := 144) cx dL_adds_133 (by decide) h (fun h => ?_) (fun h => ?_)
    · refine v_iconst (v := 0) cx dL_adds_144 (by decide) ?_
      refine v_widen (k9 := 30) (n9 := 180) (Nat.le_of_ble_eq_true rfl) (Nat.le_of_ble_eq_true rfl) ?_
      exact v_ireturn cx rfl dL_adds_145 ⟨_, _, rfl, hdk, h⟩
    · refine v_aload_n cx dL_adds_136 rfl 2 rfl ?_
      refine v_iconst (v := 0) cx dL_adds_137 (by decide) ?_
      refine a_listFault cx hl (by decide) ⟨(Nat.le_of_ble_eq_true rfl), (Nat.le_of_ble_eq_true rfl)⟩ (Nat.le_of_ble_eq_true rfl) dL_adds_138 hdk (fun w hdk => ?_)
      refine v_if_ge (tgt := 146) cx dL_adds_141 (by decide) h (fun h => ?_) (fun h => ?_)
      · refine v_aload_n cx dL_adds_146 rfl 2 rfl ?_
        refine a_addVariant cx hl (by decide) ⟨(Nat.le_of_ble_eq_true rfl), (Nat.le_of_ble_eq_true rfl)⟩ (Nat.le_of_ble_eq_true rfl) dL_adds_147 hdk (fun r_27 z_28 w hS hI hdk => ?_)
        have h := h r_27 z_28 hS hI
        refine v_istore (lv' := [(5, .int r_27), (4, .int (q_whole z_26 (0 : Int32) : Int32)), (3, .int (((((((((((r_3 + r_5) + r_7) + r_9) + r_11) + r_13) + r_15) + r_17) + r_19) + r_21) + r_23) + r_25)), (0, .ref q_p0), (1, .int x1), (2, .int x2)]) cx dL_adds_150 (by decide) rfl ?_
        refine v_iload cx dL_adds_152 0 rfl ?_
        refine v_ldc cx dL_adds_154 wK_L_20 ?_
        refine v_icmp_ne (tgt := 175) cx dL_adds_156 (by decide) h (fun h => ?_) (fun h => ?_)
        · refine v_iload cx dL_adds_175 0 rfl ?_
          refine v_iload cx dL_adds_177 1 rfl ?_
          refine v_icmp_ne (tgt := 257) cx dL_adds_179 (by decide) h (fun h => ?_) (fun h => ?_)
          · refine v_iconst (v := 0) cx dL_adds_257 (by decide) ?_
            refine v_widen (k9 := 30) (n9 := 180) (Nat.le_of_ble_eq_true rfl) (Nat.le_of_ble_eq_true rfl) ?_
            exact v_ireturn cx rfl dL_adds_258 ⟨_, _, rfl, hdk, h⟩
          · refine v_iload cx dL_adds_182 1 rfl ?_
            refine v_bipush (v := 16) cx dL_adds_184 (by decide) ?_
            refine v_icmp_ge (tgt := 257) cx dL_adds_186 (by decide) h (fun h => ?_) (fun h => ?_)
            · refine v_iconst (v := 0) cx dL_adds_257 (by decide) ?_
              refine v_widen (k9 := 30) (n9 := 180) (Nat.le_of_ble_eq_true rfl) (Nat.le_of_ble_eq_true rfl) ?_
              exact v_ireturn cx rfl dL_adds_258 ⟨_, _, rfl, hdk, h⟩
            · refine v_aload_n cx dL_adds_189 rfl 3 rfl ?_
              refine v_iload cx dL_adds_190 0 rfl ?_
              refine v_iconst (v := 0) cx dL_adds_192 (by decide) ?_
              refine a_variant cx hl (by decide) ⟨(Nat.le_of_ble_eq_true rfl), (Nat.le_of_ble_eq_true rfl)⟩ (Nat.le_of_ble_eq_true rfl) dL_adds_193 hdk (fun w hdk => ?_)
              refine v_bipush (v := 10) cx dL_adds_196 (by decide) ?_
              refine v_iconst (v := 1) cx dL_adds_198 (by decide) ?_
              refine v_iload_n cx dL_adds_199 rfl 5 rfl ?_
              refine v_bipush (v := 9) cx dL_adds_200 (by decide) ?_
              refine a_low cx (by decide) ⟨(Nat.le_of_ble_eq_true rfl), (Nat.le_of_ble_eq_true rfl)⟩ (Nat.le_of_ble_eq_true rfl) dL_adds_202 (by decide) ?_
              refine v_iadd cx dL_adds_205 ?_
              refine v_imul cx dL_adds_206 ?_
              refine v_iload_n cx dL_adds_207 rfl 5 rfl ?_
              refine v_iconst (v := 4) cx dL_adds_208 (by decide) ?_
              refine v_ishr cx dL_adds_209 ?_
              refine v_bipush (v := 10) cx dL_adds_210 (by decide) ?_
              refine a_low cx (by decide) ⟨(Nat.le_of_ble_eq_true rfl), (Nat.le_of_ble_eq_true rfl)⟩ (Nat.le_of_ble_eq_true rfl) dL_adds_212 (by decide) ?_
              refine v_iadd cx dL_adds_215 ?_
              refine v_icmp_ne (tgt := 257) cx dL_adds_216 (by decide) h (fun h => ?_) (fun h => ?_)
              · refine v_iconst (v := 0) cx dL_adds_257 (by decide) ?_
                refine v_widen (k9 := 30) (n9 := 180) (Nat.le_of_ble_eq_true rfl) (Nat.le_of_ble_eq_true rfl) ?_
                exact v_ireturn cx rfl dL_adds_258 ⟨_, _, rfl, hdk, h⟩
              · refine v_aload_n cx dL_adds_219 rfl 3 rfl ?_
                refine v_iload cx dL_adds_220 0 rfl ?_
                refine v_iconst (v := 1) cx dL_adds_222 (by decide) ?_
                refine a_variant cx hl (by decide) ⟨(Nat.le_of_ble_eq_true rfl), (Nat.le_of_ble_eq_true rfl)⟩ (Nat.le_of_ble_eq_true rfl) dL_adds_223 hdk (fun w hdk => ?_)
                refine v_sipush (v := 1000) cx dL_adds_226 (by decide) ?_
                refine v_icmp_ne (tgt := 257) cx dL_adds_229 (by decide) h (fun h => ?_) (fun h => ?_)
                · refine v_iconst (v := 0) cx dL_adds_257 (by decide) ?_
                  refine v_widen (k9 := 30) (n9 := 180) (Nat.le_of_ble_eq_true rfl) (Nat.le_of_ble_eq_true rfl) ?_
                  exact v_ireturn cx rfl dL_adds_258 ⟨_, _, rfl, hdk, h⟩
                · refine v_aload_n cx dL_adds_232 rfl 3 rfl ?_
                  refine v_iload cx dL_adds_233 0 rfl ?_
                  refine v_bipush (v := 6) cx dL_adds_235 (by decide) ?_
                  refine a_variant cx hl (by decide) ⟨(Nat.le_of_ble_eq_true rfl), (Nat.le_of_ble_eq_true rfl)⟩ (Nat.le_of_ble_eq_true rfl) dL_adds_237 hdk (fun w hdk => ?_)
                  refine v_iconst (v := 2) cx dL_adds_240 (by decide) ?_
                  refine v_icmp_ne (tgt := 257) cx dL_adds_241 (by decide) h (fun h => ?_) (fun h => ?_)
                  · refine v_iconst (v := 0) cx dL_adds_257 (by decide) ?_
                    refine v_widen (k9 := 30) (n9 := 180) (Nat.le_of_ble_eq_true rfl) (Nat.le_of_ble_eq_true rfl) ?_
                    exact v_ireturn cx rfl dL_adds_258 ⟨_, _, rfl, hdk, h⟩
                  · refine v_aload_n cx dL_adds_244 rfl 3 rfl ?_
                    refine a_addVariant cx hl (by decide) ⟨(Nat.le_of_ble_eq_true rfl), (Nat.le_of_ble_eq_true rfl)⟩ (Nat.le_of_ble_eq_true rfl) dL_adds_245 hdk (fun r_29 z_30 w hS hI hdk => ?_)
                    have h := h r_29 z_30 hS hI
                    refine v_ldc cx dL_adds_248 wK_L_20 ?_
                    refine v_icmp_ne (tgt := 257) cx dL_adds_250 (by decide) h (fun h => ?_) (fun h => ?_)
                    · refine v_iconst (v := 0) cx dL_adds_257 (by decide) ?_
                      refine v_widen (k9 := 30) (n9 := 180) (Nat.le_of_ble_eq_true rfl) (Nat.le_of_ble_eq_true rfl) ?_
                      exact v_ireturn cx rfl dL_adds_258 ⟨_, _, rfl, hdk, h⟩
                    · refine v_iconst (v := 1) cx dL_adds_253 (by decide) ?_
                      refine v_goto (tgt := 258) cx dL_adds_254 (by decide) ?_
                      refine v_widen (k9 := 30) (n9 := 180) (Nat.le_of_ble_eq_true rfl) (Nat.le_of_ble_eq_true rfl) ?_
                      exact v_ireturn cx rfl dL_adds_258 ⟨_, _, rfl, hdk, h⟩
        · refine v_aload_n cx dL_adds_159 rfl 3 rfl ?_
          refine v_iconst (v := 0) cx dL_adds_160 (by decide) ?_
          refine a_whole cx hl (by decide) ⟨(Nat.le_of_ble_eq_true rfl), (Nat.le_of_ble_eq_true rfl)⟩ (Nat.le_of_ble_eq_true rfl) dL_adds_161 hdk (fun w hdk => ?_)
          refine v_iload cx dL_adds_164 1 rfl ?_
          refine v_icmp_ne (tgt := 173) cx dL_adds_166 (by decide) h (fun h => ?_) (fun h => ?_)
          · refine v_iconst (v := 0) cx dL_adds_173 (by decide) ?_
            refine v_widen (k9 := 30) (n9 := 180) (Nat.le_of_ble_eq_true rfl) (Nat.le_of_ble_eq_true rfl) ?_
            exact v_ireturn cx rfl dL_adds_174 ⟨_, _, rfl, hdk, h⟩
          · refine v_iconst (v := 1) cx dL_adds_169 (by decide) ?_
            refine v_goto (tgt := 174) cx dL_adds_170 (by decide) ?_
            refine v_widen (k9 := 30) (n9 := 180) (Nat.le_of_ble_eq_true rfl) (Nat.le_of_ble_eq_true rfl) ?_
            exact v_ireturn cx rfl dL_adds_174 ⟨_, _, rfl, hdk, h⟩
      · refine v_iconst (v := 0) cx dL_adds_144 (by decide) ?_
        refine v_widen (k9 := 30) (n9 := 180) (Nat.le_of_ble_eq_true rfl) (Nat.le_of_ble_eq_true rfl) ?_
        exact v_ireturn cx rfl dL_adds_145 ⟨_, _, rfl, hdk, h⟩

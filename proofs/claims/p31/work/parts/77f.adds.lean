/-! the law types a variant and adds it -/
def TX (z0 : DS) (L : List Nat) (z : DS) : Prop := ∃ b : Nat → Nat, z = txt z0 L.length b ∧ ∀ j, j < L.length → b j = gB L j
theorem wd_len {w : List Nat} (h : wd w) : 1 ≤ w.length ∧ w.length ≤ 2 := by
  rcases h with ⟨x, -, rfl⟩ | ⟨x, y, -, -, rfl⟩
  · exact ⟨Nat.le_refl 1, by show 1 ≤ 2; decide⟩
  · exact ⟨by show 1 ≤ 2; decide, Nat.le_refl _⟩
theorem wd_app {w R : List Nat} (h : wd w) : ∀ x ∈ w, x ≤ 127 := by
  rcases h with ⟨x, hx, rfl⟩ | ⟨x, y, hx, hy, rfl⟩
  · intro t ht
    rw [List.mem_singleton.mp ht]
    have := hx.2
    omega
  · intro t ht
    rcases List.mem_cons.mp ht with e | e
    · have := hx.2; omega
    · rw [List.mem_singleton.mp e]
      have := hy.2
      omega
theorem p_put_ok {z0 z : DS} {L : List Nat} {v : Nat} {Q : Int32 → DS → Prop} (h : TX z0 L z) (hl : L.length < 120) (hv : v ≤ 127) (k : ∀ z', TX z0 (L ++ [v]) z' → INV z' → Q (nI 1) z') : p_L_put z (nI v) Q := by
  obtain ⟨b, rfl, hb⟩ := h
  unfold p_L_put
  intro r z' hS hI
  rcases hS with ⟨a, -, -⟩ | ⟨w, hw, e, h120, -, -⟩ | ⟨w, hw, e, hlt, rfl, rfl⟩
  · exact absurd rfl (a v hv)
  · have h120 : L.length = 120 := h120
    omega
  · obtain rfl : w = v := (nI_u e (by omega) (by omega)).symm
    have e1 : ¬ (nI (zt (txt z0 L.length b) + 1) ≤ 0) := by
      show ¬ (nI (L.length + 1) ≤ nI 0)
      simp (disch := omega) only [nS]
      omega
    refine brf e1 (k _ ⟨put1 b L.length w, ?_, ?_⟩ hI)
    · rw [List.length_append]
      rfl
    · intro j hj
      rw [List.length_append, List.length_singleton] at hj
      unfold put1
      by_cases q : j = L.length
      · rw [if_pos q, q]
        exact (gB_e L [] w).symm
      · rw [if_neg q, hb j (by omega)]
        exact (gB_l L [w] j (by omega)).symm
theorem p_name_ok {z0 z : DS} {L : List Nat} {x : Int32} {Q : Int32 → DS → Prop} (h : TX z0 L z) (hl : L.length + 2 ≤ 120) (k : ∀ w z', wd w → TX z0 (L ++ w) z' → INV z' → Q (nI w.length) z') : p_L_name z x Q := by
  obtain ⟨c, hc, ec⟩ := low_ex (x >>> (4 &&& 31)) (m := 2) (by decide) (by decide)
  have lt : ∀ y : Int32, ∃ v, ltr v ∧ v ≤ 127 ∧ (97 : Int32) + lowW y (3 : Int32) = nI v := by
    intro y
    obtain ⟨d, hd, ed⟩ := low_ex y (m := 3) (by decide) (by decide)
    exact ⟨97 + d, ⟨by omega, by omega⟩, by omega, by rw [show (3 : Int32) = nI 3 from rfl, ed]; exact nS.1 97 d⟩
  unfold p_L_name
  have step0 : ¬ ((1 : Int32) + lowW (x >>> (4 &&& 31)) (2 : Int32) ≤ 0) := by
    rw [show (2 : Int32) = nI 2 from rfl, ec, show (1 : Int32) = nI 1 from rfl, show (0 : Int32) = nI 0 from rfl]
    simp (disch := omega) only [nS]
    omega
  refine brf step0 ?_
  obtain ⟨v1, l1, b1, e1⟩ := lt (x >>> (((2 : Int32) * 0) &&& 31))
  rw [e1]
  refine p_put_ok h (by omega) b1 (fun z1 t1 i1 => ?_)
  by_cases q : c = 0
  · have step1 : ((1 : Int32) + lowW (x >>> (4 &&& 31)) (2 : Int32) ≤ 0 + 1) := by
      rw [show (2 : Int32) = nI 2 from rfl, ec, q]
      decide
    exact brt step1 (k [v1] z1 (Or.inl ⟨v1, l1, rfl⟩) t1 i1)
  · have step1 : ¬ ((1 : Int32) + lowW (x >>> (4 &&& 31)) (2 : Int32) ≤ 0 + 1) := by
      rw [show (2 : Int32) = nI 2 from rfl, ec, show c = 1 by omega]
      decide
    refine brf step1 ?_
    obtain ⟨v2, l2, b2, e2⟩ := lt (x >>> (((2 : Int32) * (0 + 1)) &&& 31))
    rw [e2]
    refine p_put_ok t1 (by rw [List.length_append, List.length_singleton]; omega) b2 (fun z2 t2 i2 => ?_)
    have step2 : ((1 : Int32) + lowW (x >>> (4 &&& 31)) (2 : Int32) ≤ 0 + 1 + 1) := by
      rw [show (2 : Int32) = nI 2 from rfl, ec, show c = 1 by omega]
      decide
    rw [List.append_assoc] at t2
    exact brt step2 (k [v1, v2] z2 (Or.inr ⟨v1, v2, l1, l2, rfl⟩) t2 i2)
theorem TX_At {z0 : DS} {L : List Nat} {b : Nat → Nat} (hb : ∀ j, j < L.length → b j = gB L j) : At b L.length 0 L := ⟨Nat.zero_add _, fun j hj => by rw [Nat.zero_add]; exact hb j hj⟩
theorem psh_M (z : DS) (M' : Nat → Nat) : zM (psh z M') = M' := rfl
theorem p_adds_ok {z : DS} {x y : Int32} {Q : Int32 → DS → Prop} (k : ∀ z', INV z' → Q (nI 1) z') : p_L_adds z x y Q := by
  obtain ⟨d1, hd1, ed1⟩ := low_ex y (m := 9) (by decide) (by decide)
  obtain ⟨d2, hd2, ed2⟩ := low_ex (y >>> (4 &&& 31)) (m := 10) (by decide) (by decide)
  unfold p_L_adds
  intro r1 z2 hS hI2
  obtain ⟨rfl, rfl⟩ := hS
  have t0 : TX z [] (txt z 0 (zb z)) := ⟨zb z, rfl, fun j hj => absurd hj (Nat.not_lt_zero _)⟩
  refine p_name_ok t0 (by decide) (fun w1 z4 q1 t1 _ => ?_)
  have n1 := wd_len q1
  refine p_put_ok (v := 47) t1 (by simp; omega) (by decide) (fun z6 t2 _ => ?_)
  refine p_name_ok t2 (by simp; omega) (fun w2 z8 q2 t3 _ => ?_)
  have n2 := wd_len q2
  refine p_put_ok (v := 32) t3 (by simp; omega) (by decide) (fun z10 t4 _ => ?_)
  refine p_name_ok t4 (by simp; omega) (fun w3 z12 q3 t5 _ => ?_)
  have n3 := wd_len q3
  refine p_put_ok (v := 45) t5 (by simp; omega) (by decide) (fun z14 t6 _ => ?_)
  refine p_name_ok t6 (by simp; omega) (fun w4 z16 q4 t7 _ => ?_)
  have n4 := wd_len q4
  refine p_put_ok (v := 32) t7 (by simp; omega) (by decide) (fun z18 t8 _ => ?_)
  refine p_name_ok t8 (by simp; omega) (fun w5 z20 q5 t9 _ => ?_)
  have n5 := wd_len q5
  refine p_put_ok (v := 32) t9 (by simp; omega) (by decide) (fun z22 t10 _ => ?_)
  rw [show (9 : Int32) = nI 9 from rfl, show (10 : Int32) = nI 10 from rfl, ed1, ed2, show (49 : Int32) + nI d1 = nI (49 + d1) from nS.1 49 d1, show (48 : Int32) + nI d2 = nI (48 + d2) from nS.1 48 d2]
  refine p_put_ok (v := 49 + d1) t10 (by simp; omega) (by omega) (fun z24 t11 _ => ?_)
  refine p_put_ok (v := 48 + d2) t11 (by simp; omega) (by omega) (fun z26 t12 hI => ?_)
  obtain ⟨b, ez, hb⟩ := t12
  have hAt := TX_At (z0 := z) hb
  have eL : ([] ++ w1 ++ [47] ++ w2 ++ [32] ++ w3 ++ [45] ++ w4 ++ [32] ++ w5 ++ [32] ++ [49 + d1] ++ [48 + d2] : List Nat) = w1 ++ (47 :: (w2 ++ (32 :: (w3 ++ (45 :: (w4 ++ (32 :: (w5 ++ (32 :: [49 + d1, 48 + d2]))))))))) := by simp
  have eN : ([] ++ w1 ++ [47] ++ w2 ++ [32] ++ w3 ++ [45] ++ w4 ++ [32] ++ w5 ++ [32] ++ [49 + d1] ++ [48 + d2] : List Nat).length = w1.length + 1 + w2.length + 1 + w3.length + 1 + w4.length + 1 + w5.length + 1 + 1 + 1 := by simp; omega
  generalize hT : ([] ++ w1 ++ [47] ++ w2 ++ [32] ++ w3 ++ [45] ++ w4 ++ [32] ++ w5 ++ [32] ++ [49 + d1] ++ [48 + d2] : List Nat) = L at *
  rw [eL] at hAt
  obtain ⟨v1, v2, v3, v4, v5⟩ := adds_read q1 q2 q3 q4 q5 (⟨by omega, by omega⟩ : dgt (49 + d1)) (⟨by omega, by omega⟩ : dgt (48 + d2)) hAt
  rw [show (w1 ++ (47 :: (w2 ++ (32 :: (w3 ++ (45 :: (w4 ++ (32 :: (w5 ++ (32 :: [49 + d1, 48 + d2]))))))))) : List Nat).length = L.length by rw [← eL]] at *
  have hzt : zt z26 = L.length := by rw [ez]; rfl
  have hzb : zb z26 = b := by rw [ez]; rfl
  have hW := hI.1
  have h16 := hW.1
  have w0 : q_whole z26 (nI 0) = nI (zM z26 0) := q_whole_ok (by omega)
  have w6 : q_whole z26 (nI 6) = nI L.length := (q_whole_ok (by omega)).trans (by show nI (zt z26) = _; rw [hzt])
  have vf : q_variantFault z26 = nM := by
    unfold q_variantFault faultV
    rw [hzb, hzt, if_pos v1]
  have lf : q_listFault z26 (nI 0) = nI (lsW b L.length 0).2.1 := by
    rw [q_listFault_ok (by decide), hzb, hzt]
    unfold fault
    rw [if_neg (by omega)]
  have lb := (lsW_out (b := b) (tn := L.length) (l := 0) (by decide)).2.1
  simp only [zl, nS.1, nS.2.1, vf, w6, w0, lf]
  refine bnt nM_e.symm (bnt (congrArg nI (by omega)) (brt (by simp (disch := omega) only [nS]; omega) ?_))
  intro r z28 hS hI28
  rw [← hzb, ← hzt] at v1 v2 v3 v4
  rcases hS with ⟨y1, -, -⟩ | ⟨-, -, rfl, rfl⟩ | ⟨-, h1, h2, rfl, rfl⟩
  · omega
  · refine bnt rfl ?_
    rw [w0]
    exact bnt rfl (k _ hI28)
  · have c1 : ¬ (nI (zM z26 0) = (-90200)) := fun e => by
      have := congrArg Int32.toInt e
      rw [nI_t (by omega)] at this
      have e9 : (-90200 : Int32).toInt = -90200 := by decide
      omega
    refine bnf c1 (bnt rfl (brf (by simp (disch := omega) only [nS]; omega) ?_))
    have hW8 := hI28.1
    have hM0 : zM (psh z26 (addV (zM z26) (VC (zb z26) (zt z26)) (vsW (zb z26) (zt z26)).2.2)) 0 = zM z26 0 + 1 := by
      rw [psh_M]
      exact if_pos rfl
    have hM6 : zM (psh z26 (addV (zM z26) (VC (zb z26) (zt z26)) (vsW (zb z26) (zt z26)).2.2)) (10 + 8 * zM z26 0 + 6) = (vsW (zb z26) (zt z26)).2.2 := by
      rw [psh_M]
      unfold addV
      rw [if_neg (by omega), if_neg (by omega), if_pos rfl]
    have hM7 : zM (psh z26 (addV (zM z26) (VC (zb z26) (zt z26)) (vsW (zb z26) (zt z26)).2.2)) (10 + 8 * zM z26 0 + 7) = 1000 := by
      rw [psh_M]
      unfold addV
      rw [if_neg (by omega), if_pos rfl]
    have hMi : ∀ i, i < 6 → zM (psh z26 (addV (zM z26) (VC (zb z26) (zt z26)) (vsW (zb z26) (zt z26)).2.2)) (10 + 8 * zM z26 0 + i) = VC (zb z26) (zt z26) i := by
      intro i hi
      rw [psh_M]
      unfold addV
      rw [if_neg (by omega), if_neg (by omega), if_neg (by omega), if_pos (by omega), show 10 + 8 * zM z26 0 + i - (10 + 8 * zM z26 0) = i by omega]
    have hM3 : zM (psh z26 (addV (zM z26) (VC (zb z26) (zt z26)) (vsW (zb z26) (zt z26)).2.2)) (10 + 8 * zM z26 0 + 3) ≠ 0 := by
      rw [hMi 3 (by omega)]
      exact v3
    have hM4 : zM (psh z26 (addV (zM z26) (VC (zb z26) (zt z26)) (vsW (zb z26) (zt z26)).2.2)) (10 + 8 * zM z26 0 + 4) = 0 := by
      rw [hMi 4 (by omega)]
      exact v4
    have htw : tw (zM (psh z26 (addV (zM z26) (VC (zb z26) (zt z26)) (vsW (zb z26) (zt z26)).2.2))) (VC (zb z26) (zt z26)) (zM z26 0) := hMi
    have hz8b : zb (psh z26 (addV (zM z26) (VC (zb z26) (zt z26)) (vsW (zb z26) (zt z26)).2.2)) = zb z26 := rfl
    have hz8t : zt (psh z26 (addV (zM z26) (VC (zb z26) (zt z26)) (vsW (zb z26) (zt z26)).2.2)) = zt z26 := rfl
    generalize psh z26 (addV (zM z26) (VC (zb z26) (zt z26)) (vsW (zb z26) (zt z26)).2.2) = z28 at *
    have u0 : q_variant z28 (nI (zM z26 0)) (nI 0) = nI ((vsW (zb z26) (zt z26)).2.2) := (q_variant_ok hW8 (by omega) (by omega)).trans (by show nI _ = _; rw [hM6])
    have u1 : q_variant z28 (nI (zM z26 0)) (nI 1) = nI 1000 := (q_variant_ok hW8 (by omega) (by omega)).trans (by show nI _ = _; rw [hM7])
    have u6 : q_variant z28 (nI (zM z26 0)) (nI 6) = nI 2 := (q_variant_ok hW8 (by omega) (by omega)).trans (by
      show nI (lnM (zM z28) (zM z26 0)) = _
      unfold lnM
      rw [if_pos hM4, if_neg hM3])
    simp only [zl, u0, u1, u6]
    refine bnt (congrArg nI (by omega)) (bnt (by trivial) (bnt (by trivial) ?_))
    intro r z30 hS hI30
    rcases hS with ⟨y1, -, -⟩ | ⟨-, -, rfl, rfl⟩ | ⟨-, h3, h4, -, -⟩
    · rw [hz8b, hz8t] at y1
      omega
    · exact bnt rfl (k _ hI30)
    · rw [hz8b, hz8t] at h4
      exact absurd htw (h4 (zM z26 0) (by omega))

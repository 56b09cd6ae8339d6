/-! one turn of the law -/
theorem sm_remE {M : Nat → Nat} {s l : Nat} (hs : s < 2) (hl : l < 3) (h : 0 < M (4 + (3 * s + l))) : sm (remE M (3 * s + l) 0) s = sm M s - 1 ∧ 1 ≤ sm M s := by
  unfold sm remE ec
  rcases (show s = 0 ∨ s = 1 by omega) with rfl | rfl <;> rcases (show l = 0 ∨ l = 1 ∨ l = 2 by omega) with rfl | rfl | rfl <;> simp at h ⊢ <;> omega
section LW
variable {z : DS} {B : Int32 → DS → Prop} {x2 y12 y13 : Int32} {xs : Nat → Int32} {L : Nat} {K888 K838 K201 K179 : Int32 → DS → Int32 → Int32 → Int32 → Int32 → Int32 → Int32 → Int32 → Prop} {K824 K570 : Int32 → DS → Int32 → Int32 → Int32 → Int32 → Int32 → Int32 → Int32 → Int32 → Prop} {K469 K309 : Int32 → DS → Int32 → Int32 → Int32 → Int32 → Int32 → Int32 → Int32 → Int32 → Int32 → Prop} {K714 : Int32 → DS → Int32 → Int32 → Int32 → Int32 → Int32 → Int32 → Int32 → Int32 → Int32 → Int32 → Int32 → Prop}
theorem n1 : ¬ nI 1 = 0 := by decide
theorem lw_868 {z44 : DS} (go : ∀ z', INV z' → B (x2 + 1) z') (hI : INV z44) : p_L_law_j868 x2 B z44 xs L K888 z y12 y13 := by
  unfold p_L_law_j868
  exact ⟨fun _ => go _ hI, fun _ => p_thoughts_ok hI (fun z' hI' => bnf n1 (go _ hI'))⟩
theorem lw_840 {z44 : DS} (go : ∀ z', INV z' → B (x2 + 1) z') (hI : INV z44) : p_L_law_j840 K888 x2 xs L z y12 y13 B z44 := by
  unfold p_L_law_j840
  exact p_sound_ok hI (brf n1 ⟨fun _ => lw_868 go hI, fun _ => p_lists_ok hI (brf n1 (p_listing_ok hI (brf n1 (lw_868 go hI))))⟩)
theorem low_sl (x : Int32) {m : Nat} (hm : 0 < m) (h31 : m < 2147483648) : ∃ k, k < m ∧ lowW x (nI m) = nI k := low_ex x hm h31
theorem lw_668 (hI : INV z) {fl : Int32} (hfl : ¬ fl = 0 → plainR (zM z)) (go : ∀ z', INV z' → B (x2 + 1) z') : p_L_law_j668 z K714 x2 xs L y12 y13 K888 B fl := by
  have hW := hI.1
  have w5 : q_whole z (5 : Int32) = nI (zM z 7 + zM z 8 + zM z 9) := q_whole_ok (w := 5) (by omega)
  unfold p_L_law_j668
  intro r z30 hS hI30
  obtain ⟨rfl, e30⟩ := hS
  have hM : zM z30 = swpS (zM z) := by rw [e30, psh_M]
  have a4 : zM z30 4 = zM z 7 := by rw [hM]; exact swp_len (M := zM z) (l := 0) (by omega)
  have a5 : zM z30 5 = zM z 8 := by rw [hM]; exact swp_len (M := zM z) (l := 1) (by omega)
  have a6 : zM z30 6 = zM z 9 := by rw [hM]; exact swp_len (M := zM z) (l := 2) (by omega)
  have w4 : q_whole z30 (4 : Int32) = nI (zM z 7 + zM z 8 + zM z 9) := (q_whole_ok (w := 4) (by omega)).trans (by show nI (zM z30 4 + zM z30 5 + zM z30 6) = _; rw [a4, a5, a6])
  rw [w5, w4]
  refine bnt rfl (bnt rfl ?_)
  by_cases q : fl = 0
  · exact brt q (lw_840 go hI30)
  · have hp := hfl q
    have s0 : ∀ z' : DS, q_servedFor z' (0 : Int32) = nP (fiM (zM z') 2 0) := fun z' => q_servedFor_ok (s := 0) (by omega)
    have s1 : ∀ z' : DS, q_servedFor z' (1 : Int32) = nP (fiM (zM z') 1 0) := fun z' => q_servedFor_ok (s := 1) (by omega)
    rw [s0 z30, s1 z30, s0 z, s1 z, hM, swp_fi hW hp (Or.inr rfl), swp_fi hW hp (Or.inl rfl)]
    exact brf q (bnt rfl (brt rfl (lw_840 go hI30)))
theorem lw_575 (hI : INV z) (go : ∀ z', INV z' → B (x2 + 1) z') : p_L_law_j575 y12 z xs L x2 K888 y13 B K838 K824 K714 := by
  have hW := hI.1
  have m1 : zM z 1 ≤ 5 := hW.2.2.1 0 (by omega)
  have m2 : zM z 2 ≤ 5 := hW.2.2.1 1 (by omega)
  have m3 : zM z 3 ≤ 5 := hW.2.2.1 2 (by omega)
  have w7 : ∀ z' : DS, q_whole z' (7 : Int32) = nI (zM z' 1) := fun z' => q_whole_ok (w := 7) (by omega)
  have w8 : ∀ z' : DS, q_whole z' (8 : Int32) = nI (zM z' 2) := fun z' => q_whole_ok (w := 8) (by omega)
  have w9 : ∀ z' : DS, q_whole z' (9 : Int32) = nI (zM z' 3) := fun z' => q_whole_ok (w := 9) (by omega)
  unfold p_L_law_j575
  refine ⟨fun _ => ⟨fun _ => p_thoughts_ok hI (fun z' hI' => bnf n1 (lw_840 go hI')), fun _ => ?_⟩, fun _ => ?_⟩
  · obtain ⟨a, ha, ea⟩ := low_ex (lotW xs L (((2 : Int32) * x2) + (1 : Int32))) (m := 6) (by decide) (by decide)
    obtain ⟨b, hb, eb⟩ := low_ex (lotW xs L (((2 : Int32) * x2) + (1 : Int32)) >>> (3 &&& 31)) (m := 6) (by decide) (by decide)
    obtain ⟨d, hd, ed⟩ := low_ex (lotW xs L (((2 : Int32) * x2) + (1 : Int32)) >>> (6 &&& 31)) (m := 6) (by decide) (by decide)
    rw [show (6 : Int32) = nI 6 from rfl] at *
    rw [ea, eb, ed, w7 z, w8 z, w9 z]
    intro r z27 hS hI27
    rcases hS with ⟨h, -⟩ | ⟨a', b', d', h1, h2, h3, h4, h5, h6, rfl, e27⟩
    · exact absurd ⟨rfl, rfl, rfl⟩ (h a b d (by omega) (by omega) (by omega))
    · obtain rfl : a' = a := (nI_u h4 (by omega) (by omega)).symm
      obtain rfl : d' = d := (nI_u h6 (by omega) (by omega)).symm
      have hM : zM z27 = setT (zM z) a' b' d' := by rw [e27, psh_M]
      have e1 : zM z27 1 = a' := by rw [hM]; rfl
      have e3 : zM z27 3 = d' := by rw [hM]; rfl
      rw [w7 z27, w9 z27, e1, e3]
      refine bnt ?_ (bnt rfl (brt rfl (lw_840 go hI27)))
      show _ = nI 100 * nI (zM z 1) + nI 10 * nI (zM z 2) + nI (zM z 3)
      rw [nS.2.1, nS.2.1, nS.1, nS.1]
  · rw [w7, w8, w9]
    have e : ∀ a b : Nat, a ≤ 5 → b ≤ 5 → ((nI a = nI b) = (a = b)) := fun a b h1 h2 => nS.2.2.2.2.2.2.2.2.2.1 a b (by omega) (by omega)
    have j667 : p_L_law_j667 z K714 x2 xs L y12 y13 K888 B := lw_668 hI (fun h => absurd rfl h) go
    rw [show (3 : Int32) = nI 3 from rfl, show (4 : Int32) = nI 4 from rfl, e _ 3 m1 (by omega), e _ 4 m1 (by omega), e _ 3 m2 (by omega), e _ 4 m2 (by omega), e _ 3 m3 (by omega), e _ 4 m3 (by omega)]
    refine ⟨fun _ => j667, fun h1 => ⟨fun _ => j667, fun h2 => ⟨fun _ => j667, fun h3 => ⟨fun _ => j667, fun h4 => ⟨fun _ => j667, fun h5 => ⟨fun _ => j667, fun h6 => lw_668 hI (fun _ => ?_) go⟩⟩⟩⟩⟩⟩
    intro i hi
    rcases (show i = 0 ∨ i = 1 ∨ i = 2 by omega) with rfl | rfl | rfl
    · exact ⟨h1, h2⟩
    · exact ⟨h3, h4⟩
    · exact ⟨h5, h6⟩
theorem lw_508 (hI : INV z) {v : Nat} {y18 : Int32} (hv : v < zM z 0) (hy : y13 = nI v) (hy18 : v + 1 < zM z 0 → y18 = nI (zM z (10 + 8 * (v + 1) + 6))) (go : ∀ z', INV z' → B (x2 + 1) z') : p_L_law_j508 z y13 K570 x2 xs L y12 K888 B y18 := by
  have hW := hI.1
  have h16 := hW.1
  subst hy
  have w0 : ∀ z' : DS, q_whole z' (0 : Int32) = nI (zM z' 0) := fun z' => q_whole_ok (w := 0) (by omega)
  unfold p_L_law_j508
  rw [w0 z]
  intro r z20 hS hI20
  rcases hS with ⟨h, -⟩ | ⟨v', hv', e, rfl, e20⟩
  · exact absurd rfl (h v hv)
  · obtain rfl : v' = v := (nI_u e (by omega) (by omega)).symm
    have hM : zM z20 = remV (zM z) v' := by rw [e20, psh_M]
    have h0 : zM z20 0 = zM z 0 - 1 := by rw [hM]; rfl
    have j544 : p_L_law_j544 xs L x2 K888 z y12 (nI v') B z20 K570 y18 := by
      unfold p_L_law_j544
      refine ⟨fun _ => lw_840 go hI20, fun _ => ?_⟩
      intro r z22 hS hI22
      have hcp := cx_pos (zc z)
      have hc4 := cx_le hI.2.2.1
      have hzc : zc z20 = cx (zc z) := by rw [e20]; rfl
      rcases hS with ⟨h, -⟩ | ⟨h, rfl, e22⟩
      · omega
      · have hM22 : zM z22 = zM z := by rw [e22, e20, pop_psh hI.2.2.1]
        rw [w0 z22, w0 z, hM22]
        exact brf (by rw [hzc]; simp (disch := omega) only [zl, nS]; omega) (brt rfl (lw_840 go hI22))
    refine bnt (by show _ = nI (zM z 0) - nI 1; rw [nS.2.2.1 _ _ (by omega)]) ?_
    refine ⟨fun _ => j544, fun h => ?_⟩
    have hlt : v' + 1 < zM z 0 := by
      have h : ¬ (nI (zM z 0) ≤ nI v' + nI 1) := h
      rw [nS.1, nS.2.2.2.2.2.2.2.1 _ _ (by omega) (by omega)] at h
      omega
    refine bnt ?_ j544
    rw [hy18 hlt, show q_variant z20 (nI v') (0 : Int32) = vlV (zM z20) v' 0 from q_variant_ok (w := 0) hI20.1 (by omega) (by omega)]
    show nI (zM z20 (10 + 8 * v' + 6)) = _
    rw [hM]
    unfold remV
    rw [if_neg (by omega), if_pos (by omega), show 10 + 8 * v' + 6 + 8 = 10 + 8 * (v' + 1) + 6 by omega]
theorem lw_450 {z36 : DS} {s l : Nat} (hI : INV z) (hI36 : INV z36) (hs : s < 2) (hl : l < 3) (es : lowW (lotW xs L (((2 : Int32) * x2) + (1 : Int32))) (2 : Int32) = nI s) (el : lowW (lotW xs L (((2 : Int32) * x2) + (1 : Int32)) >>> (1 &&& 31)) (3 : Int32) = nI l) (hz : ¬ 0 < zM z (4 + (3 * s + l)) → z36 = z) (go : ∀ z', INV z' → B (x2 + 1) z') : p_L_law_j450 z xs L x2 K888 y12 y13 B K469 z36 := by
  have hW := hI.1
  unfold p_L_law_j450
  refine ⟨fun _ => lw_840 go hI36, fun h => ?_⟩
  rw [es, el] at h ⊢
  by_cases h0 : 0 < zM z (4 + (3 * s + l))
  · exfalso
    apply h
    have hw := (hW.2.2.2.2 (3 * s + l) (by omega) 0 h0).2
    rw [show q_entry z (nI s) (nI l) (0 : Int32) (0 : Int32) = nI (zM z (ec (3 * s + l) 0 + 3)) from qe_sl (w := 0) hW hs hl h0 (by omega)]
    simp (disch := omega) only [zl, nS]
    omega
  · obtain rfl := hz h0
    intro r z38 hS hI38
    obtain ⟨rfl, rfl⟩ := rf_remE (isE_slno (e := 0) hs hl (by decide) (by omega)) hS
    exact brt rfl (lw_840 go hI38)
theorem lw_406 {z33 : DS} {s l : Nat} (hI : INV z) (hI33 : INV z33) (hs : s < 2) (hl : l < 3) (es : lowW (lotW xs L (((2 : Int32) * x2) + (1 : Int32))) (2 : Int32) = nI s) (el : lowW (lotW xs L (((2 : Int32) * x2) + (1 : Int32)) >>> (1 &&& 31)) (3 : Int32) = nI l) (hz : ¬ 0 < zM z (4 + (3 * s + l)) → z33 = z) (hz1 : z33 = z ∨ lowW (lotW xs L (((2 : Int32) * x2) + (1 : Int32)) >>> (4 &&& 31)) (2 : Int32) = 0) (go : ∀ z', INV z' → B (x2 + 1) z') : p_L_law_j406 z xs L x2 K888 y12 y13 B K469 z33 := by
  have hW := hI.1
  unfold p_L_law_j406
  refine ⟨fun _ => lw_450 hI hI33 hs hl es el hz go, fun h => ⟨fun _ => lw_450 hI hI33 hs hl es el hz go, fun h1 => ?_⟩⟩
  rcases hz1 with rfl | h2
  · rw [es, el] at h ⊢
    by_cases h0 : 0 < zM z33 (4 + (3 * s + l))
    · have hE := isE_sl (M := zM z33) (e := 0) hs hl h0
      intro r z35 hS hI35
      rcases hS with ⟨h, -⟩ | ⟨l', e', h, rfl, e35⟩
      · exact absurd hE (h _ _)
      · obtain ⟨rfl, rfl⟩ := isE_u hW hE h
        have hM : zM z35 = remE (zM z33) (3 * s + l) 0 := by rw [e35, psh_M]
        obtain ⟨r1, r2⟩ := sm_remE (M := zM z33) hs hl h0
        have h10 := hW.2.1 (3 * s + l) (by omega)
        refine brf (by simp (disch := omega) only [zl, nS]; omega) ?_
        rw [show (4 : Int32) = nI 4 from rfl, q_whole_s (z := z35) hs, q_whole_s (z := z33) hs, hM, r1]
        exact bnt (by show _ = nI (sm (zM z33) s) - nI 1; rw [nS.2.2.1 _ _ r2]) (lw_450 hI hI35 hs hl es el (fun q => absurd h0 q) go)
    · exfalso
      apply h
      rw [show q_entry z33 (nI s) (nI l) (0 : Int32) (0 : Int32) = (-90300) from qe_slno (e := 0) hs hl (by decide) (by omega)]
      decide
  · rw [h2] at h1
    exact absurd h1 (by decide)
theorem lw_314 (hI : INV z) (hy : ∃ v, y13 = nI v ∧ (v < zM z 0 ∨ zM z 0 = 0)) (go : ∀ z', INV z' → B (x2 + 1) z') : p_L_law_j314 y12 z xs L x2 K888 y13 B K838 K824 K714 K570 K469 := by
  obtain ⟨s, hs, es⟩ := low_ex (lotW xs L (((2 : Int32) * x2) + (1 : Int32))) (m := 2) (by decide) (by decide)
  obtain ⟨l, hl, el⟩ := low_ex (lotW xs L (((2 : Int32) * x2) + (1 : Int32)) >>> (1 &&& 31)) (m := 3) (by decide) (by decide)
  obtain ⟨w, hw, ew⟩ := low_ex (lotW xs L (((2 : Int32) * x2) + (1 : Int32)) >>> (5 &&& 31)) (m := 1001) (by decide) (by decide)
  have es' : lowW (lotW xs L (((2 : Int32) * x2) + (1 : Int32))) (2 : Int32) = nI s := es
  have el' : lowW (lotW xs L (((2 : Int32) * x2) + (1 : Int32)) >>> (1 &&& 31)) (3 : Int32) = nI l := el
  have ew' : lowW (lotW xs L (((2 : Int32) * x2) + (1 : Int32)) >>> (5 &&& 31)) (1001 : Int32) = nI w := ew
  have hW := hI.1
  have h16 := hW.1
  have w0 : q_whole z (0 : Int32) = nI (zM z 0) := q_whole_ok (w := 0) (by omega)
  obtain ⟨v, rfl, hv⟩ := hy
  unfold p_L_law_j314
  refine ⟨fun _ => ⟨fun _ => lw_575 hI go, fun _ => ⟨fun _ => lw_575 hI go, fun h => ?_⟩⟩, fun _ => ⟨fun _ => lw_406 hI hI hs hl es' el' (fun _ => rfl) (Or.inl rfl) go, fun h => ⟨fun _ => lw_406 hI hI hs hl es' el' (fun _ => rfl) (Or.inl rfl) go, fun h2 => ?_⟩⟩⟩
  · rw [w0] at h ⊢
    have hne : ¬ zM z 0 = 0 := fun q => h (by rw [q]; decide)
    have hlt : v < zM z 0 := by omega
    refine ⟨fun h3 => lw_508 hI hlt rfl (fun h4 => ?_) go, fun h3 => lw_508 hI hlt rfl (fun h4 => ?_) go⟩
    · exfalso
      have h3 : nI (zM z 0) ≤ nI v + nI 1 := h3
      rw [nS.1, nS.2.2.2.2.2.2.2.1 _ _ (by omega) (by omega)] at h3
      omega
    · show q_variant z (nI v + nI 1) (nI 0) = _
      rw [nS.1, q_variant_ok hW h4 (by omega)]
      rfl
  · rw [es', el'] at h
    rw [es', el', ew']
    by_cases h0 : 0 < zM z (4 + (3 * s + l))
    · have hE := isE_sl (M := zM z) (e := 0) hs hl h0
      have eE : q_entry z (nI s) (nI l) (0 : Int32) (0 : Int32) = nI (zM z (ec (3 * s + l) 0 + 3)) := qe_sl (w := 0) hW hs hl h0 (by omega)
      rw [eE]
      intro r z32 hS hI32
      rcases hS with ⟨h, -⟩ | ⟨l', e', h, h3, -⟩ | ⟨l', e', w', h, hw', h3, rfl, e32⟩
      · exact absurd hE (h _ _)
      · exact absurd rfl (h3 w (by omega))
      · obtain ⟨rfl, rfl⟩ := isE_u hW hE h
        obtain rfl : w' = w := (nI_u h3 (by omega) (by omega)).symm
        have hM : zM z32 = setC (zM z) (ec (3 * s + l) 0 + 3) w' := by rw [e32, psh_M]
        have hlen : zM z32 (4 + (3 * s + l)) = zM z (4 + (3 * s + l)) := by
          rw [hM]
          exact if_neg (by unfold ec; omega)
        have eE2 : q_entry z32 (nI s) (nI l) (0 : Int32) (0 : Int32) = nI w' := by
          have := qe_sl (z := z32) (e := 0) (w := 0) hI32.1 hs hl (by rw [hlen]; exact h0) (by omega)
          refine this.trans ?_
          show nI (zM z32 (ec (3 * s + l) 0 + 3)) = _
          rw [hM]
          exact congrArg nI (if_pos rfl)
        rw [eE2]
        exact bnt rfl (bnt rfl (lw_406 hI hI32 hs hl es' el' (fun q => absurd h0 q) (Or.inr h2) go))
    · exfalso
      apply h
      rw [show q_entry z (nI s) (nI l) (0 : Int32) (0 : Int32) = (-90300) from qe_slno (e := 0) hs hl (by decide) (by omega)]
      decide
theorem lw_141 (hI : INV z) (hy : ∃ v, y13 = nI v ∧ (v < zM z 0 ∨ zM z 0 = 0)) (go : ∀ z', INV z' → B (x2 + 1) z') : p_L_law_j141 y12 z xs L x2 K888 B K838 K824 K714 K570 K469 K309 K201 K179 y13 := by
  obtain ⟨s, hs, es⟩ := low_ex (lotW xs L (((2 : Int32) * x2) + (1 : Int32))) (m := 2) (by decide) (by decide)
  obtain ⟨l, hl, el⟩ := low_ex (lotW xs L (((2 : Int32) * x2) + (1 : Int32)) >>> (1 &&& 31)) (m := 3) (by decide) (by decide)
  obtain ⟨q, hq, eq⟩ := low_ex (lotW xs L (((2 : Int32) * x2) + (1 : Int32))) (m := 1001) (by decide) (by decide)
  obtain ⟨g, hg, eg⟩ := low_ex (lotW xs L (((2 : Int32) * x2) + (1 : Int32)) >>> (3 &&& 31)) (m := 1000000) (by decide) (by decide)
  have es' : lowW (lotW xs L (((2 : Int32) * x2) + (1 : Int32))) (2 : Int32) = nI s := es
  have el' : lowW (lotW xs L (((2 : Int32) * x2) + (1 : Int32)) >>> (1 &&& 31)) (3 : Int32) = nI l := el
  have eq' : lowW (lotW xs L (((2 : Int32) * x2) + (1 : Int32))) (1001 : Int32) = nI q := eq
  have eg' : lowW (lotW xs L (((2 : Int32) * x2) + (1 : Int32)) >>> (3 &&& 31)) (1000000 : Int32) = nI g := eg
  have hW := hI.1
  have h16 := hW.1
  have w0 : q_whole z (0 : Int32) = nI (zM z 0) := q_whole_ok (w := 0) (by omega)
  have j314 : p_L_law_j314 y12 z xs L x2 K888 y13 B K838 K824 K714 K570 K469 := lw_314 hI hy go
  unfold p_L_law_j141
  refine ⟨fun _ => ⟨fun _ => ⟨fun _ => j314, fun _ => ⟨fun _ => j314, fun h => ?_⟩⟩, fun _ => ?_⟩, fun _ => p_adds_ok (fun z' hI' => bnf n1 (lw_840 go hI'))⟩
  · obtain ⟨v, rfl, hv⟩ := hy
    rw [w0] at h
    have hne : ¬ zM z 0 = 0 := fun q => h (by rw [q]; decide)
    have hlt : v < zM z 0 := by omega
    have e1 : q_variant z (nI v) (1 : Int32) = nI (zM z (10 + 8 * v + 7)) := q_variant_ok (w := 1) hW hlt (by omega)
    have e0 : q_variant z (nI v) (0 : Int32) = nI (zM z (10 + 8 * v + 6)) := q_variant_ok (w := 0) hW hlt (by omega)
    rw [eq', eg', e1, e0]
    intro r z15 hS hI15
    rcases hS with ⟨h, -⟩ | ⟨v', hv', h, h2, -⟩ | ⟨v', q', hv', h, hq', h2, rfl, e15⟩
    · exact absurd rfl (h v hlt)
    · exact absurd rfl (h2 q (by omega))
    · obtain rfl : v' = v := (nI_u h (by omega) (by omega)).symm
      obtain rfl : q' = q := (nI_u h2 (by omega) (by omega)).symm
      have hM : zM z15 = setC (zM z) (10 + 8 * v' + 7) q' := by rw [e15, psh_M]
      have m0 : zM z15 0 = zM z 0 := by rw [hM]; exact if_neg (by omega)
      have m7 : zM z15 (10 + 8 * v' + 7) = q' := by rw [hM]; exact if_pos rfl
      have m6 : zM z15 (10 + 8 * v' + 6) = zM z (10 + 8 * v' + 6) := by rw [hM]; exact if_neg (by omega)
      have f1 : q_variant z15 (nI v') (1 : Int32) = nI q' := (q_variant_ok (w := 1) hI15.1 (by omega) (by omega)).trans (congrArg nI m7)
      rw [f1]
      refine bnt rfl (bnt rfl ?_)
      intro r z17 hS hI17
      rcases hS with ⟨h, -⟩ | ⟨v2, hv2, h, h3, -⟩ | ⟨v2, g', hv2, h, hg', h3, rfl, e17⟩
      · exact absurd rfl (h v' (by omega))
      · exact absurd rfl (h3 g (by omega))
      · obtain rfl : v2 = v' := (nI_u h (by omega) (by omega)).symm
        obtain rfl : g' = g := (nI_u h3 (by omega) (by omega)).symm
        have hM17 : zM z17 = setC (zM z15) (10 + 8 * v2 + 6) g' := by rw [e17, psh_M]
        have n0 : zM z17 0 = zM z15 0 := by rw [hM17]; exact if_neg (by omega)
        have n6 : zM z17 (10 + 8 * v2 + 6) = g' := by rw [hM17]; exact if_pos rfl
        have f0 : q_variant z17 (nI v2) (0 : Int32) = nI g' := (q_variant_ok (w := 0) hI17.1 (by omega) (by omega)).trans (congrArg nI n6)
        rw [f0]
        exact bnt (congrArg nI m6) (brt rfl (lw_840 go hI17))
  · rw [es', el']
    exact p_takes_ok hI hs hl (fun z' hI' => bnf n1 (lw_840 go hI'))
theorem lw_122 (hI : INV z) (go : ∀ z', INV z' → B (x2 + 1) z') : p_L_law_j122 z xs L x2 K888 B K838 K824 K714 K570 K469 K309 K201 K179 y12 := by
  have h16 := hI.1.1
  have w0 : q_whole z (0 : Int32) = nI (zM z 0) := q_whole_ok (w := 0) (by omega)
  unfold p_L_law_j122
  rw [w0]
  by_cases q : zM z 0 = 0
  · exact bnt (by rw [q]; rfl) (lw_141 hI ⟨0, rfl, Or.inr q⟩ go)
  · have hne : ¬ nI (zM z 0) = 0 := fun e => q (nI_u (b := 0) e (by omega) (by decide))
    obtain ⟨v, hv, ev⟩ := low_ex (lotW xs L ((2 : Int32) * x2) >>> (5 &&& 31)) (m := zM z 0) (by omega) (by omega)
    exact bnf hne ⟨hne, by rw [ev]; exact lw_141 hI ⟨v, rfl, Or.inl hv⟩ go⟩
end LW
theorem lw_65 {L : Nat} (hL : L ≤ 260) {xs : Nat → Int32} {K888 K838 K201 K179 : Int32 → DS → Int32 → Int32 → Int32 → Int32 → Int32 → Int32 → Int32 → Prop} {K824 K570 : Int32 → DS → Int32 → Int32 → Int32 → Int32 → Int32 → Int32 → Int32 → Int32 → Prop} {K469 K309 : Int32 → DS → Int32 → Int32 → Int32 → Int32 → Int32 → Int32 → Int32 → Int32 → Int32 → Prop} {K714 : Int32 → DS → Int32 → Int32 → Int32 → Int32 → Int32 → Int32 → Int32 → Int32 → Int32 → Int32 → Int32 → Prop} {K896 : Int32 → DS → Prop} (hK : ∀ x z', INV z' → K896 x z') : ∀ (r i f : Nat) (z : DS), i + r = 30 → r < f → INV z → p_L_law_65 L xs K179 K201 K309 K469 K570 K714 K824 K838 K888 K896 f (nI i) z := by
  intro r
  induction r with
  | zero =>
    intro i f z hi hf hI
    obtain ⟨f, rfl⟩ : ∃ g, f = g + 1 := ⟨f - 1, by omega⟩
    obtain rfl : i = 30 := by omega
    exact brt (by decide) (hK _ _ hI)
  | succ r ih =>
    intro i f z hi hf hI
    obtain ⟨f, rfl⟩ : ∃ g, f = g + 1 := ⟨f - 1, by omega⟩
    have h6 : ¬ (30 : Int32) ≤ nI i := by
      show ¬ nI 30 ≤ nI i
      simp (disch := omega) only [nS]
      omega
    have go : ∀ z', INV z' → p_L_law_65 L xs K179 K201 K309 K469 K570 K714 K824 K838 K888 K896 f (nI i + 1) z' := fun z' hI' => by
      have := ih (i + 1) f z' (by omega) (by omega) hI'
      show p_L_law_65 L xs K179 K201 K309 K469 K570 K714 K824 K838 K888 K896 f (nI i + nI 1) z'
      rw [nS.1]
      exact this
    refine brf h6 ⟨fun h => ?_, fun h => ?_, ⟨fun _ => ⟨fun _ => lw_122 hI go, fun _ => lw_122 hI go⟩, fun _ => lw_122 hI go⟩⟩
    · have h : nI 2 * nI i < nI L := h
      show vp_in (nI 2 * nI i) L
      rw [nS.2.1] at h ⊢
      rw [nS.2.2.2.2.2.2.2.2.1 _ _ (by omega) (by omega)] at h
      rw [nS.2.2.2.2.2.2.2.2.2.2 _ _ (by omega)]
      exact h
    · have h : nI 2 * nI i + nI 1 < nI L := h
      show vp_in (nI 2 * nI i + nI 1) L
      rw [nS.2.1, nS.1] at h ⊢
      rw [nS.2.2.2.2.2.2.2.2.1 _ _ (by omega) (by omega)] at h
      rw [nS.2.2.2.2.2.2.2.2.2.2 _ _ (by omega)]
      exact h
theorem zINIT_INV : INV zINIT := ⟨M00_WF, fun p hp => absurd hp (Nat.not_lt_zero _), Nat.zero_le _, Nat.zero_le _, fun _ => (by decide : (0 : Nat) < 128)⟩
theorem p_law_true {L : Nat} (hL : L ≤ 260) (xs : Nat → Int32) : p_L_law xs L := by
  unfold p_L_law
  refine p_refuses_ok zINIT_INV (fun _ => brf n1 ?_)
  intro r z4 hS hI4
  rcases hS with ⟨-, rfl, rfl⟩ | ⟨h, -⟩
  · refine bnt rfl (p_sound_ok hI4 (brf n1 (p_lists_ok hI4 (brf n1 (p_listing_ok hI4 (brf n1 ?_))))))
    intro r z9 hS hI9
    have h0 : zt zINIT = 0 := rfl
    have hAt : At (zb zINIT) (zt zINIT) 0 [] := ⟨rfl, fun j hj => absurd hj (Nat.not_lt_zero _)⟩
    obtain ⟨v1, v2⟩ := lsW_read (l := 0) (n := 0) (L := []) (by decide) (by decide) rfl hAt
    rcases hS with ⟨h, -⟩ | ⟨s, l, hs, hl, e1, e2, h, -⟩ | ⟨s, l, hs, hl, e1, e2, h, rfl, e9⟩
    · exact absurd ⟨0, 0, by decide, by decide, rfl, rfl⟩ h
    · obtain rfl : l = 0 := (nI_u (a := 0) e2 (by omega) (by omega)).symm
      omega
    · obtain rfl : l = 0 := (nI_u (a := 0) e2 (by omega) (by omega)).symm
      rw [v2]
      refine bnt rfl ?_
      intro r z11 hS hI11
      have hzc : zc z9 = 1 := by rw [e9]; rfl
      rcases hS with ⟨h, -⟩ | ⟨h, rfl, -⟩
      · omega
      · rw [hzc]
        exact brt rfl (lw_65 hL (fun x z' hI' => p_refuses_ok hI' (fun _ => rfl)) 30 0 31 z11 (by decide) (by decide) hI11)
  · exact absurd h (by decide)

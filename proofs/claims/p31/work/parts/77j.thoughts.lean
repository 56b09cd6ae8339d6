/-! what-if questions -/
theorem lsF_sp {P : Nat → Prop} : ∀ (r x : Nat), (lsF P r x = 0 ∧ ∀ t, x ≤ t → t < x + r → ¬ P t) ∨ ∃ y, x ≤ y ∧ y < x + r ∧ lsF P r x = y + 1 ∧ P y
  | 0, x => Or.inl ⟨rfl, fun t h1 h2 => absurd h2 (by omega)⟩
  | r + 1, x => by
    by_cases q : P x
    · exact Or.inr ⟨x, Nat.le_refl _, by omega, lsF_t q, q⟩
    · rcases lsF_sp (P := P) r (x + 1) with ⟨h1, h2⟩ | ⟨y, h1, h2, h3, h4⟩
      · refine Or.inl ⟨(lsF_f q).trans h1, fun t t1 t2 h => ?_⟩
        by_cases e : t = x
        · subst e
          exact q h
        · exact h2 t (by omega) (by omega) h
      · exact Or.inr ⟨y, by omega, by omega, (lsF_f q).trans h3, h4⟩
/-- the least value that serves: none, or one that serves, and below each that serves -/
theorem lsM_sp {P : Nat → Prop} : (lsM P = 0 ∧ ∀ t, t ≤ 1000 → ¬ P t) ∨ ∃ y, y ≤ 1000 ∧ lsM P = y + 1 ∧ P y ∧ ∀ t, t ≤ 1000 → P t → y ≤ t := by
  rcases lsF_sp (P := P) 1001 0 with ⟨h1, h2⟩ | ⟨y, h1, h2, h3, h4⟩
  · exact Or.inl ⟨h1, fun t ht => h2 t (by omega) (by omega)⟩
  · refine Or.inr ⟨y, by omega, h3, h4, fun t ht hp => ?_⟩
    by_cases q : y ≤ t
    · exact q
    · exfalso
      -- a smaller one that serves would have been found
      have key : ∀ (n t : Nat), t ≤ n → P t → t < y → False := by
        intro n
        induction n with
        | zero =>
          intro t ht hp hlt
          obtain rfl : t = 0 := by omega
          have e := lsF_t (P := P) (r := 1000) (x := 0) hp
          have h3' : lsF P (1000 + 1) 0 = y + 1 := h3
          omega
        | succ n ih =>
          intro t ht hp hlt
          by_cases e : ∃ u, u < t ∧ P u
          · obtain ⟨u, hu, hpu⟩ := e
            exact ih u (by omega) hpu (by omega)
          · have e2 := lsF_at (P := P) (y := t) 1001 0 (by omega) (by omega) (fun w hw hpw => e ⟨w, hw, hpw⟩) hp
            omega
      exact key t t (Nat.le_refl _) hp (by omega)
theorem setC_self (M : Nat → Nat) (c : Nat) : setC M c (M c) = M := by
  funext j
  unfold setC
  by_cases q : j = c
  · rw [if_pos q, q]
  · rw [if_neg q]
theorem fiM_wo {M : Nat → Nat} {v : Nat} : fiM M 0 (v + 1) = if fiM M 0 0 = v + 1 then (if 1 < (rkM M 0 0).1 then (rkM M 0 0).2 1 + 1 else 0) else fiM M 0 0 := by
  have e1 : fiM M 0 (v + 1) = fi (aM M 0) (fun u => inM M 0 0 u ∧ u + 1 ≠ v + 1) (M 0) := by
    have : rk (aM M 0) (inM M 0 (v + 1)) (M 0) = rk (aM M 0) (fun u => inM M 0 0 u ∧ u + 1 ≠ v + 1) (M 0) := rk_congS (M 0) (fun u _ => ⟨fun a => ⟨⟨a.1, by omega⟩, a.2⟩, fun a => ⟨a.1.1, a.2⟩⟩)
    unfold fiM fi
    rw [this]
  rw [e1]
  exact fi_wo (aM_TO M 0)
section TH
variable {z : DS}
theorem th_354 {z5 : DS} {x : Int32} {v s l : Nat} (hI : INV z) (hI5 : INV z5) (hM : zM z5 = zM z) (hv : v < zM z 0) (hs : s < 2) (hl : l < 3) (h0 : 0 < zM z (4 + (3 * s + l))) (e0 : q_whole z (0 : Int32) = nI (zM z 0)) (ev : lowW x (nI (zM z 0)) = nI v) (es : lowW (x >>> (4 &&& 31)) (2 : Int32) = nI s) (el : lowW (x >>> (5 &&& 31)) (3 : Int32) = nI l) {Q : Int32 → DS → Prop} (k : ∀ z', INV z' → Q (nI 1) z') : p_L_thoughts_j354 z5 x z Q := by
  have hW := hI.1
  have hW5 := hI5.1
  have h16 := hW.1
  have hE : isE (zM z5) (nI s) (nI l) (nI 0) (3 * s + l) 0 := by rw [hM]; exact isE_sl hs hl h0
  have eE : q_entry z5 (nI s) (nI l) (0 : Int32) (0 : Int32) = nI (zM z (ec (3 * s + l) 0 + 3)) := by
    have := q_entry_ok (w := 0) hW5 hE (by omega)
    rw [hM] at this
    exact this
  have eL : q_leastWeight z5 (nI s) (nI l) (0 : Int32) (nI v) = nP (lsM (PS (zM z) (ec (3 * s + l) 0 + 3) v)) := by
    have := q_leastWeight_ok (v := v) hW5 hE (by rw [hM]; exact hv)
    rw [hM] at this
    exact this
  have w2 : ∀ z' : DS, q_whole z' (2 : Int32) = nP (fiM (zM z') 0 0) := fun z' => q_whole_ok (w := 2) (by omega)
  unfold p_L_thoughts_j354
  rw [e0, ev, es, el, eL, eE]
  refine brt (lgc _) ?_
  rcases lsM_sp (P := PS (zM z) (ec (3 * s + l) 0 + 3) v) with ⟨h1, -⟩ | ⟨y, hy, h1, hP, -⟩
  · rw [h1]
    exact brt (by decide) (k _ hI5)
  · rw [h1, nP_s]
    refine brf (by simp (disch := omega) only [zl, nS]; omega) ?_
    intro r z7 hS hI7
    rcases hS with ⟨h, -⟩ | ⟨l', e', h, h2, -⟩ | ⟨l', e', y', h, hy', h2, rfl, rfl⟩
    · exact absurd hE (h _ _)
    · exact absurd rfl (h2 y hy)
    · obtain ⟨rfl, rfl⟩ := isE_u hW5 hE h
      obtain rfl : y' = y := (nI_u h2 (by omega) (by omega)).symm
      have hM7 : zM (psh z5 (setC (zM z5) (ec (3 * s + l) 0 + 3) y')) = setC (zM z) (ec (3 * s + l) 0 + 3) y' := by rw [psh_M, hM]
      refine bnt (by rw [hM]) ?_
      rw [w2 (psh _ _), hM7, show fiM (setC (zM z) (ec (3 * s + l) 0 + 3) y') 0 0 = v + 1 from hP, nP_s]
      refine bnt rfl ?_
      intro r z9 hS hI9
      have hcp := cx_pos (zc z5)
      have hc4 := cx_le hI5.2.2.1
      have hzc : zc (psh z5 (setC (zM z5) (ec (3 * s + l) 0 + 3) y')) = cx (zc z5) := rfl
      rcases hS with ⟨h, -⟩ | ⟨h, rfl, e9⟩
      · omega
      · have hM9 : zM z9 = zM z := by rw [e9, pop_psh hI5.2.2.1, hM]
        refine brf (by rw [hzc]; simp (disch := omega) only [zl, nS]; omega) ?_
        rw [w2 z9, w2 z, hM9]
        exact bnt rfl (k _ hI9)
theorem th_245 {z5 : DS} {x : Int32} {v : Nat} (hI : INV z) (hI5 : INV z5) (hM : zM z5 = zM z) (hv : v < zM z 0) (e0 : q_whole z (0 : Int32) = nI (zM z 0)) (ev : lowW x (nI (zM z 0)) = nI v) {Q : Int32 → DS → Prop} (k : ∀ z', INV z' → Q (nI 1) z') : p_L_thoughts_j245 x z Q z5 := by
  obtain ⟨s, hs, es⟩ := low_ex (x >>> (4 &&& 31)) (m := 2) (by decide) (by decide)
  obtain ⟨l, hl, el⟩ := low_ex (x >>> (5 &&& 31)) (m := 3) (by decide) (by decide)
  have es' : lowW (x >>> (4 &&& 31)) (2 : Int32) = nI s := es
  have el' : lowW (x >>> (5 &&& 31)) (3 : Int32) = nI l := el
  have hW := hI.1
  have hW5 := hI5.1
  have h16 := hW.1
  have w2 : q_whole z (2 : Int32) = nP (fiM (zM z) 0 0) := q_whole_ok (w := 2) (by omega)
  unfold p_L_thoughts_j245
  rw [e0, ev, es', el', w2]
  by_cases h0 : 0 < zM z (4 + (3 * s + l))
  · have j := th_354 (Q := Q) hI hI5 hM hv hs hl h0 e0 ev es' el' k
    have hE : isE (zM z5) (nI s) (nI l) (nI 0) (3 * s + l) 0 := by rw [hM]; exact isE_sl hs hl h0
    have hw := (hW.2.2.2.2 (3 * s + l) (by omega) 0 h0).2
    have eE : q_entry z5 (nI s) (nI l) (0 : Int32) (0 : Int32) = nI (zM z (ec (3 * s + l) 0 + 3)) := by
      have := q_entry_ok (w := 0) hW5 hE (by omega)
      rw [hM] at this
      exact this
    have eL : q_leastWeight z5 (nI s) (nI l) (0 : Int32) (nI v) = nP (lsM (PS (zM z) (ec (3 * s + l) 0 + 3) v)) := by
      have := q_leastWeight_ok (v := v) hW5 hE (by rw [hM]; exact hv)
      rw [hM] at this
      exact this
    rw [eL, eE]
    refine brt (by simp (disch := omega) only [zl, nS]; omega) ?_
    have hnow : fiM (zM z) 0 0 = v + 1 → PS (zM z) (ec (3 * s + l) 0 + 3) v (zM z (ec (3 * s + l) 0 + 3)) := fun h => by
      unfold PS
      rw [setC_self]
      exact h
    have hfl := fi_le (aM (zM z) 0) (inM (zM z) 0 0) (zM z 0)
    have hfl' : fiM (zM z) 0 0 ≤ zM z 0 := hfl
    rcases lsM_sp (P := PS (zM z) (ec (3 * s + l) 0 + 3) v) with ⟨h1, h2⟩ | ⟨y, hy, h1, hP, h2⟩
    · rw [h1, nP_0]
      refine brf (by decide) (brf (by decide) (bnf ?_ j))
      rw [nP_eq (by omega) (by omega)]
      intro e
      exact h2 _ hw (hnow e)
    · rw [h1, nP_s]
      refine brf (by simp (disch := omega) only [zl, nSm]; exact not_false) (brf (by simp (disch := omega) only [zl, nS]; omega) ?_)
      by_cases e : fiM (zM z) 0 0 = v + 1
      · have hle := h2 _ hw (hnow e)
        refine bnt (by rw [e, nP_s]) (brf (by simp (disch := omega) only [zl, nS]; omega) (brf (by simp (disch := omega) only [zl, nS]; omega) j))
      · exact bnf (by rw [nP_eq (by omega) (by omega)]; exact e) j
  · have hno := isE_slno (M := zM z5) (e := 0) hs hl (by decide) (by rw [hM]; omega)
    have eE : q_entry z5 (nI s) (nI l) (0 : Int32) (0 : Int32) = (-90300) := q_entry_no hno
    have eL : q_leastWeight z5 (nI s) (nI l) (0 : Int32) (nI v) = (-90300) := q_leastWeight_no hno
    rw [eE, eL]
    exact brf (by decide) (bnt rfl (k _ hI5))
theorem th_177 {x : Int32} {v : Nat} (hI : INV z) (hv : v < zM z 0) (e0 : q_whole z (0 : Int32) = nI (zM z 0)) (ev : lowW x (nI (zM z 0)) = nI v) {Q : Int32 → DS → Prop} (k : ∀ z', INV z' → Q (nI 1) z') : p_L_thoughts_j177 z x Q := by
  have hW := hI.1
  have h16 := hW.1
  have w2 : ∀ z' : DS, q_whole z' (2 : Int32) = nP (fiM (zM z') 0 0) := fun z' => q_whole_ok (w := 2) (by omega)
  have eQ : q_leastQuality z (nI v) = nP (lsM (PS (zM z) (10 + 8 * v + 7) v)) := q_leastQuality_ok hW hv
  have e1 : q_variant z (nI v) (1 : Int32) = nI (zM z (10 + 8 * v + 7)) := q_variant_ok (w := 1) hW hv (by omega)
  unfold p_L_thoughts_j177
  rw [e0, ev, eQ, e1]
  rcases lsM_sp (P := PS (zM z) (10 + 8 * v + 7) v) with ⟨h1, -⟩ | ⟨y, hy, h1, hP, -⟩
  · rw [h1]
    exact brt (by decide) (th_245 hI hI rfl hv e0 ev k)
  · rw [h1, nP_s]
    refine brf (by simp (disch := omega) only [zl, nS]; omega) ?_
    intro r z2 hS hI2
    rcases hS with ⟨h, -⟩ | ⟨v', hv', h, h2, -⟩ | ⟨v', y', hv', h, hy', h2, rfl, rfl⟩
    · exact absurd rfl (h v hv)
    · exact absurd rfl (h2 y hy)
    · obtain rfl : v' = v := (nI_u h (by omega) (by omega)).symm
      obtain rfl : y' = y := (nI_u h2 (by omega) (by omega)).symm
      refine bnt rfl ?_
      rw [w2 (psh _ _), psh_M, show fiM (setC (zM z) (10 + 8 * v' + 7) y') 0 0 = v' + 1 from hP, nP_s]
      refine bnt rfl ?_
      intro r z4 hS hI4
      have hcp := cx_pos (zc z)
      have hc4 := cx_le hI.2.2.1
      have hzc : zc (psh z (setC (zM z) (10 + 8 * v' + 7) y')) = cx (zc z) := rfl
      rcases hS with ⟨h, -⟩ | ⟨h, rfl, e4⟩
      · omega
      · have hM4 : zM z4 = zM z := by rw [e4, pop_psh hI.2.2.1]
        have e1' : q_variant z4 (nI v') (1 : Int32) = nI (zM z (10 + 8 * v' + 7)) := by
          have := q_variant_ok (z := z4) (v := v') (w := 1) hI4.1 (by rw [hM4]; exact hv) (by omega)
          rw [hM4] at this
          exact this
        refine brf (by rw [hzc]; simp (disch := omega) only [zl, nS]; omega) ?_
        rw [e1', w2 z4, w2 z, hM4]
        exact bnt rfl (brt rfl (th_245 hI hI4 hM4 hv e0 ev k))
theorem p_thoughts_ok (hI : INV z) {x : Int32} {Q : Int32 → DS → Prop} (k : ∀ z', INV z' → Q (nI 1) z') : p_L_thoughts z x Q := by
  have hW := hI.1
  have h16 := hW.1
  have w0 : q_whole z (0 : Int32) = nI (zM z 0) := q_whole_ok (w := 0) (by omega)
  have w2 : q_whole z (2 : Int32) = nP (fiM (zM z) 0 0) := q_whole_ok (w := 2) (by omega)
  have fl : ∀ es wo, fiM (zM z) es wo ≤ zM z 0 := fun es wo => fi_le _ _ _
  by_cases h0 : zM z 0 = 0
  · have f0 : fiM (zM z) 0 0 = 0 := by have := fl 0 0; omega
    have f1 : fiM (zM z) 1 0 = 0 := by have := fl 1 0; omega
    have f2 : fiM (zM z) 2 0 = 0 := by have := fl 2 0; omega
    unfold p_L_thoughts
    rw [w0, w2, h0, f0]
    have s0 : q_servedFor z (0 : Int32) = (-1) := (q_servedFor_ok (s := 0) (by omega)).trans (by rw [show 2 - 0 = 2 from rfl, f2]; rfl)
    have sw : q_servedWithout z (0 : Int32) = (-90300) := q_servedWithout_no (fun v hv => by omega)
    have lq : q_leastQuality z (0 : Int32) = (-90300) := q_leastQuality_no (fun v hv => by omega)
    have ag : ¬ q_agree z = 0 := by
      unfold q_agree
      rw [f1, f2, if_pos rfl]
      decide
    exact bnt rfl (bnt rfl (bnt s0 (bnt sw (bnt lq (brf ag (k _ hI))))))
  · obtain ⟨v, hv, ev⟩ := low_ex x (m := zM z 0) (by omega) (by omega)
    have eQ : q_leastQuality z (nI v) = nP (lsM (PS (zM z) (10 + 8 * v + 7) v)) := q_leastQuality_ok hW hv
    have e1 : q_variant z (nI v) (1 : Int32) = nI (zM z (10 + 8 * v + 7)) := q_variant_ok (w := 1) hW hv (by omega)
    have eS : q_servedWithout z (nI v) = nP (fiM (zM z) 0 (v + 1)) := q_servedWithout_ok hW hv
    have hq := (hW.2.2.2.1 v hv).2.2.2.2
    have fl0 := fl 0 0
    have flv := fl 0 (v + 1)
    have j177 := th_177 (Q := Q) hI hv w0 ev k
    have hnow : fiM (zM z) 0 0 = v + 1 → PS (zM z) (10 + 8 * v + 7) v (zM z (10 + 8 * v + 7)) := fun h => by
      unfold PS
      rw [setC_self]
      exact h
    have hz0 : ¬ PS (zM z) (10 + 8 * v + 7) v 0 := fun h => by
      have h1 := ((LQ_PS hW hv).mp h).1
      have h2 : scE (zM z) 0 v 0 ≤ 0 := scF_le hW 6 0 0 (by decide)
      omega
    have hnv : ¬ fiM (zM z) 0 (v + 1) = v + 1 := fun h => by
      have := (fi_iff (aM_TO (zM z) 0)).mp h
      exact this.2.1.2 rfl
    have j148 : p_L_thoughts_j148 z x Q := by
      unfold p_L_thoughts_j148
      rw [w0, ev, eQ, w2]
      rcases lsM_sp (P := PS (zM z) (10 + 8 * v + 7) v) with ⟨h1, h2⟩ | ⟨y, hy, h1, hP, h2⟩
      · rw [h1, nP_0]
        refine brf (by decide) (brf (by decide) (bnf ?_ j177))
        rw [nP_eq (by omega) (by omega)]
        intro e
        exact h2 _ hq (hnow e)
      · have hy0 : y ≠ 0 := fun e => hz0 (by rw [e] at hP; exact hP)
        rw [h1, nP_s]
        refine brf (by simp (disch := omega) only [zl, nSm]; exact not_false) (brf (by simp (disch := omega) only [zl, nS]; omega) ?_)
        by_cases e : fiM (zM z) 0 0 = v + 1
        · exact bnt (by rw [e, nP_s]) (brt (by simp (disch := omega) only [zl, nS]; omega) j177)
        · exact bnf (by rw [nP_eq (by omega) (by omega)]; exact e) j177
    have j122 : p_L_thoughts_j122 z x Q := by
      unfold p_L_thoughts_j122
      rw [w0, ev, eQ, w2, eS, e1]
      refine brf (by rw [nP_eq (by omega) (by omega)]; exact hnv) ?_
      by_cases e : fiM (zM z) 0 0 = v + 1
      · refine bnt (by rw [e, nP_s]) (brf ?_ j148)
        rcases lsM_sp (P := PS (zM z) (10 + 8 * v + 7) v) with ⟨h1, h2⟩ | ⟨y, hy, h1, hP, h2⟩
        · exact absurd (hnow e) (h2 _ hq)
        · have := h2 _ hq (hnow e)
          rw [h1, nP_s]
          simp (disch := omega) only [nS]
          omega
      · exact bnf (by rw [nP_eq (by omega) (by omega)]; exact e) j148
    have hne : ¬ nI (zM z 0) = 0 := fun e => h0 (nI_u (b := 0) e (by omega) (by decide))
    unfold p_L_thoughts
    rw [w0, ev, w2, eS]
    refine bnf hne ⟨hne, bnt (lgc _) ?_⟩
    by_cases e : fiM (zM z) 0 0 = v + 1
    · exact brt (by rw [e, nP_s]) j122
    · refine brf (by rw [nP_eq (by omega) (by omega)]; exact e) (bnt ?_ j122)
      rw [fiM_wo, if_neg e]
end TH

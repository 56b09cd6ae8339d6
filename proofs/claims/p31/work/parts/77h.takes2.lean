/-! the law's own taking of lists -/
theorem pop_psh {z : DS} {M' : Nat → Nat} (hc : zc z ≤ 4) : zM (pop (psh z M')) = zM z := by
  show nx (zc z) (zS z) (zM z) (cx (zc z) - 1) = zM z
  unfold nx cx
  by_cases q : zc z < 4
  · rw [if_pos q, if_pos q, if_pos (by omega)]
  · rw [if_neg q, if_neg q, if_pos rfl]
theorem cx_pos (c : Nat) : 0 < cx c := by
  unfold cx
  split <;> omega
theorem isE_sl {M : Nat → Nat} {s l e : Nat} (hs : s < 2) (hl : l < 3) (he : e < M (4 + (3 * s + l))) : isE M (nI s) (nI l) (nI e) (3 * s + l) e := ⟨by omega, he, s, l, hs, hl, rfl, rfl, rfl, rfl⟩
theorem isE_slno {M : Nat → Nat} {s l e : Nat} (hs : s < 2) (hl : l < 3) (he31 : e < 2147483648) (he : M (4 + (3 * s + l)) ≤ e) : ∀ l' e', ¬ isE M (nI s) (nI l) (nI e) l' e' := fun l' e' ⟨h1, h2, s', k', hs', hk', el, e1, e2, e3⟩ => by
  have a1 := nI_u e1 (by omega) (by omega)
  have a2 := nI_u e2 (by omega) (by omega)
  have hlk : l' = 3 * s + l := by omega
  subst hlk
  by_cases q : e' < 2147483648
  · have a3 := nI_u e3 he31 q
    omega
  · omega
section TK2
variable {z0 : DS} {B : Int32 → Int32 → DS → Prop} {x3 : Int32}
theorem tk_215 {z : DS} {L : List Nat} {i : Nat} (h : TX z0 L z) (hl : L.length ≤ 110) (hI : INV z) (kk : ∀ W z', WGT W → W.length ≤ 6 → TX z0 (L ++ W) z' → INV z' → B (nI (L ++ W).length) (nI (i + 1)) z') : p_L_takes_j215 x3 (nI i) B (nI L.length) z := by
  obtain ⟨d, hd, ed⟩ := low_ex ((x3 >>> (((3 : Int32) + ((3 : Int32) * nI i)) &&& 31)) >>> (5 &&& 31)) (m := 10) (by decide) (by decide)
  obtain ⟨e, he, ee⟩ := low_ex ((x3 >>> (((3 : Int32) + ((3 : Int32) * nI i)) &&& 31)) >>> (2 &&& 31)) (m := 10) (by decide) (by decide)
  unfold p_L_takes_j215
  by_cases q : lowW ((x3 >>> (((3 : Int32) + ((3 : Int32) * nI i)) &&& 31)) >>> (4 &&& 31)) (3 : Int32) = 0
  · refine bnt q ?_
    show B (nI L.length + nI 0) (nI i + nI 1) z
    rw [nS.1, nS.1]
    have := kk [] z (Or.inl rfl) (by decide) (by rw [List.append_nil]; exact h) hI
    rw [List.append_nil] at this
    exact this
  · refine bnf q ?_
    refine p_put_ok (v := 32) h (by omega) (by decide) (fun z1 t1 _ => ?_)
    refine p_put_ok (v := 59) t1 (by simp; omega) (by decide) (fun z2 t2 _ => ?_)
    refine p_put_ok (v := 48) t2 (by simp; omega) (by decide) (fun z3 t3 _ => ?_)
    rw [show (10 : Int32) = nI 10 from rfl, ed, ee, show (48 : Int32) + nI d = nI (48 + d) from nS.1 48 d, show (48 : Int32) + nI e = nI (48 + e) from nS.1 48 e]
    refine p_put_ok (v := 48 + d) t3 (by simp; omega) (by omega) (fun z4 t4 _ => ?_)
    refine p_put_ok (v := 48 + e) t4 (by simp; omega) (by omega) (fun z5 t5 _ => ?_)
    refine p_put_ok (v := 48) t5 (by simp; omega) (by decide) (fun z6 t6 i6 => ?_)
    have eL : L ++ [32] ++ [59] ++ [48] ++ [48 + d] ++ [48 + e] ++ [48] = L ++ [32, 59, 48, 48 + d, 48 + e, 48] := by simp
    rw [eL] at t6
    have := kk [32, 59, 48, 48 + d, 48 + e, 48] z6 (Or.inr ⟨48 + d, 48 + e, ⟨by omega, by omega⟩, ⟨by omega, by omega⟩, rfl⟩) (Nat.le_refl 6) t6 i6
    show B (nI L.length + (nI 1 + nI 1 + nI 1 + nI 1 + nI 1 + nI 1)) (nI i + nI 1) z6
    rw [nS.1, nS.1, nS.1, nS.1, nS.1, nS.1, nS.1]
    rw [List.length_append] at this
    exact this
theorem tk_89 {z : DS} {L : List Nat} {i l n m : Nat} (hl3 : l < 3) (h : TX z0 L z) (hnm : n + m = L.length) (hl : L.length ≤ 100) (kk : ∀ E z', ENT l E → E.length ≤ 11 → TX z0 (L ++ E) z' → INV z' → B (nI (L ++ E).length) (nI (i + 1)) z') : p_L_takes_j89 (nI l) x3 (nI i) B (nI n) (nI m) z := by
  have fin : ∀ R z', RNG l R → R.length ≤ 5 → TX z0 (L ++ R) z' → INV z' → p_L_takes_j215 x3 (nI i) B (nI (L ++ R).length) z' := by
    intro R z' hR h5 ht hI
    refine tk_215 ht (by rw [List.length_append]; omega) hI (fun W z'' hW h6 ht' hI' => ?_)
    have := kk (R ++ W) z'' ⟨R, W, rfl, hR, hW⟩ (by rw [List.length_append]; omega) (by rw [← List.append_assoc]; exact ht') hI'
    rw [List.append_assoc]
    exact this
  unfold p_L_takes_j89
  by_cases q : l = 0
  · subst q
    refine bnt rfl ?_
    have c125 : ∀ p z', ((lowW (x3 >>> (((3 : Int32) + ((3 : Int32) * nI i)) &&& 31)) (4 : Int32) = 0 ∧ p = [42]) ∨ (¬ lowW (x3 >>> (((3 : Int32) + ((3 : Int32) * nI i)) &&& 31)) (4 : Int32) = 0 ∧ wd p)) → TX z0 (L ++ p) z' → p_L_takes_j125 x3 (nI i) B (nI n) (nI m) (nI p.length) z' := by
      intro p z' hp ht
      have hpl : 1 ≤ p.length ∧ p.length ≤ 2 := by
        rcases hp with ⟨-, rfl⟩ | ⟨-, hp⟩
        · exact ⟨Nat.le_refl 1, by show 1 ≤ 2; decide⟩
        · exact wd_len hp
      unfold p_L_takes_j125
      refine p_put_ok (v := 47) ht (by rw [List.length_append]; omega) (by decide) (fun z1 t1 _ => ?_)
      have c176 : ∀ s z2, s.length ≤ 2 → RNG 0 (p ++ (47 :: s)) → TX z0 (L ++ p ++ [47] ++ s) z2 → INV z2 → p_L_takes_j176 x3 (nI i) B (nI n) (nI m) (nI p.length) (nI 1) (nI s.length) z2 := by
        intro s z2 hs hr ht2 hI2
        have := fin (p ++ (47 :: s)) z2 hr (by simp; omega) (by simpa using ht2) hI2
        unfold p_L_takes_j176
        rw [nS.1, nS.1, nS.1, nS.1]
        rw [show (L ++ (p ++ (47 :: s))).length = n + m + p.length + (1 + s.length) by simp; omega] at this
        exact this
      have c156 : ((p = [42]) ∨ wd p) → p_L_takes_j156 z1 x3 (nI i) B (nI n) (nI m) (nI p.length) (nI 1) := by
        intro hpp
        unfold p_L_takes_j156
        refine p_put_ok (v := 42) t1 (by simp; omega) (by decide) (fun z2 t2 i2 => ?_)
        refine c176 [42] z2 (by decide) ?_ t2 i2
        unfold RNG
        rw [if_pos rfl]
        refine ⟨p, [42], rfl, ?_⟩
        rcases hpp with h1 | h1
        · exact Or.inl ⟨h1, rfl⟩
        · exact Or.inr ⟨h1, Or.inl rfl⟩
      rcases hp with ⟨h0, hp⟩ | ⟨h0, hp⟩
      · exact brt h0 (c156 (Or.inl hp))
      · refine brf h0 ?_
        by_cases q3 : lowW ((x3 >>> (((3 : Int32) + ((3 : Int32) * nI i)) &&& 31)) >>> (3 &&& 31)) (3 : Int32) = 0
        · exact bnt q3 (c156 (Or.inr hp))
        · refine bnf q3 (p_name_ok t1 (by simp; omega) (fun w z2 qw t2 i2 => ?_))
          refine c176 w z2 (wd_len qw).2 ?_ t2 i2
          unfold RNG
          rw [if_pos rfl]
          exact ⟨p, w, rfl, Or.inr ⟨hp, Or.inr qw⟩⟩
    by_cases q4 : lowW (x3 >>> (((3 : Int32) + ((3 : Int32) * nI i)) &&& 31)) (4 : Int32) = 0
    · exact bnt q4 (p_put_ok (v := 42) h (by omega) (by decide) (fun z1 t1 _ => c125 [42] z1 (Or.inl ⟨q4, rfl⟩) t1))
    · exact bnf q4 (p_name_ok h (by omega) (fun w z1 qw t1 _ => c125 w z1 (Or.inr ⟨q4, qw⟩) t1))
  · have hne : ¬ (nI l = 0) := fun e => q (nI_u e (by omega) (by decide))
    refine bnf hne ?_
    have c212 : ∀ R z', RNG l R → R.length ≤ 5 → TX z0 (L ++ R) z' → INV z' → p_L_takes_j212 x3 (nI i) B (nI n) (nI m) (nI R.length) z' := by
      intro R z' hR h5 ht hI
      have := fin R z' hR h5 ht hI
      unfold p_L_takes_j212
      rw [nS.1, nS.1]
      rw [List.length_append, ← hnm] at this
      exact this
    have hr : ∀ R, (R = [42] ∨ wd R) → RNG l R := fun R h => by
      unfold RNG
      rw [if_neg q]
      exact h
    by_cases q4 : lowW (x3 >>> (((3 : Int32) + ((3 : Int32) * nI i)) &&& 31)) (4 : Int32) = 0
    · exact bnt q4 (p_put_ok (v := 42) h (by omega) (by decide) (fun z1 t1 i1 => c212 [42] z1 (hr _ (Or.inl rfl)) (by decide) t1 i1))
    · exact bnf q4 (p_name_ok h (by omega) (fun w z1 qw t1 i1 => c212 w z1 (hr _ (Or.inr qw)) (by have := (wd_len qw).2; omega) t1 i1))
theorem tk_48 {l many : Nat} (hl3 : l < 3) (hm : many ≤ 4) {K : Int32 → Int32 → DS → Prop} (hK : ∀ L z', ENS l many L → L.length ≤ 52 → TX z0 L z' → INV z' → K (nI L.length) (nI many) z') : ∀ (r i f : Nat) (L : List Nat) (z : DS), i + r = many → r < f → TX z0 L z → ENS l i L → L.length ≤ 13 * i → INV z → p_L_takes_48 (nI many) (nI l) x3 K f (nI L.length) (nI i) z := by
  intro r
  induction r with
  | zero =>
    intro i f L z hi hf ht hE hL hI
    obtain ⟨f, rfl⟩ : ∃ g, f = g + 1 := ⟨f - 1, by omega⟩
    obtain rfl : i = many := by omega
    exact brt (by rw [Int32.le_iff_toInt_le]; omega) (hK L z hE (by omega) ht hI)
  | succ r ih =>
    intro i f L z hi hf ht hE hL hI
    obtain ⟨f, rfl⟩ : ∃ g, f = g + 1 := ⟨f - 1, by omega⟩
    have h6 : ¬ nI many ≤ nI i := by
      simp (disch := omega) only [nS]
      omega
    refine brf h6 ?_
    by_cases q : i = 0
    · subst q
      obtain rfl : L = [] := hE
      refine brt (by decide) (tk_89 (m := 0) hl3 ht rfl (by decide) (fun E z' hE' h11 ht' hI' => ?_))
      rw [List.nil_append] at ht' ⊢
      exact ih 1 f E z' (by omega) (by omega) ht' hE' (by omega) hI'
    · have h7 : ¬ nI i ≤ 0 := by
        show ¬ nI i ≤ nI 0
        simp (disch := omega) only [nS]
        omega
      refine brf h7 ?_
      refine p_put_ok (v := 44) ht (by omega) (by decide) (fun z1 t1 _ => ?_)
      refine p_put_ok (v := 32) t1 (by simp; omega) (by decide) (fun z2 t2 _ => ?_)
      rw [nS.1]
      refine tk_89 hl3 t2 (by simp) (by simp; omega) (fun E z' hE' h11 ht' hI' => ?_)
      refine ih (i + 1) f _ z' (by omega) (by omega) ht' ?_ (by simp; omega) hI'
      obtain ⟨j, rfl⟩ : ∃ j, i = j + 1 := ⟨i - 1, by omega⟩
      have := ENS_snoc hE' j L hE
      rw [show L ++ [44] ++ [32] ++ E = L ++ (44 :: 32 :: E) by simp]
      exact this
end TK2
section TK3
variable {z : DS}
theorem qe_sl (hW : WF (zM z)) {s l e w : Nat} (hs : s < 2) (hl : l < 3) (he : e < zM z (4 + (3 * s + l))) (hw : w ≤ 3) : q_entry z (nI s) (nI l) (nI e) (nI w) = nI (eV (zM z) (3 * s + l) e w) := q_entry_ok hW (isE_sl hs hl he) hw
theorem qe_slno {s l e : Nat} {x : Int32} (hs : s < 2) (hl : l < 3) (h31 : e < 2147483648) (he : zM z (4 + (3 * s + l)) ≤ e) : q_entry z (nI s) (nI l) (nI e) x = (-90300) := q_entry_no (isE_slno hs hl h31 he)
theorem tk_24 (hW : WF (zM z)) {s l : Nat} (hs : s < 2) (hl : l < 3) {K : Int32 → Prop} (hK : K (nI (zM z (4 + (3 * s + l))))) : ∀ (r i f : Nat), i + r = zM z (4 + (3 * s + l)) → r < f → p_L_takes_24 z (nI s) (nI l) K f (nI i) := by
  intro r
  induction r with
  | zero =>
    intro i f hi hf
    obtain ⟨f, rfl⟩ : ∃ g, f = g + 1 := ⟨f - 1, by omega⟩
    have h10 := hW.2.1 (3 * s + l) (by omega)
    obtain rfl : i = zM z (4 + (3 * s + l)) := by omega
    refine brt ?_ hK
    rw [qe_slno hs hl (by omega) (Nat.le_refl _)]
    decide
  | succ r ih =>
    intro i f hi hf
    obtain ⟨f, rfl⟩ : ∃ g, f = g + 1 := ⟨f - 1, by omega⟩
    have h10 := hW.2.1 (3 * s + l) (by omega)
    have ho := hW.2.2.2.2 (3 * s + l) (by omega) i (by omega)
    have hw1 := ho.2
    have e0 : q_entry z (nI s) (nI l) (nI i) (nI 0) = nI (zM z (ec (3 * s + l) i + 3)) := qe_sl hW hs hl (by omega) (by omega)
    have h0 : ¬ (q_entry z (nI s) (nI l) (nI i) (0 : Int32) < 0) := by
      show ¬ (q_entry z (nI s) (nI l) (nI i) (nI 0) < nI 0)
      rw [e0]
      simp (disch := omega) only [nS]
      omega
    refine brf h0 ?_
    have := ih (i + 1) f (by omega) (by omega)
    show p_L_takes_24 z (nI s) (nI l) K f (nI i + nI 1)
    rw [nS.1]
    exact this
def sm (M : Nat → Nat) (s : Nat) : Nat := if s = 0 then M 4 + M 5 + M 6 else M 7 + M 8 + M 9
theorem q_whole_s {s : Nat} (hs : s < 2) : q_whole z (nI 4 + nI s) = nI (sm (zM z) s) := by
  rw [nS.1, q_whole_ok (by omega)]
  rcases (show s = 0 ∨ s = 1 by omega) with rfl | rfl <;> rfl
theorem sm_setL {M V : Nat → Nat} {s l n : Nat} (hs : s < 2) (hl : l < 3) : sm (setL M (s * 3 + l) n V) s = sm M s - M (4 + (3 * s + l)) + n ∧ M (4 + (3 * s + l)) ≤ sm M s := by
  unfold sm setL
  rcases (show s = 0 ∨ s = 1 by omega) with rfl | rfl <;> rcases (show l = 0 ∨ l = 1 ∨ l = 2 by omega) with rfl | rfl | rfl <;> simp <;> omega
theorem p_takes_ok (hI : INV z) {s l : Nat} (hs : s < 2) (hl : l < 3) {x : Int32} {Q : Int32 → DS → Prop} (k : ∀ z', INV z' → Q (nI 1) z') : p_L_takes z (nI s) (nI l) x Q := by
  obtain ⟨many, hm, em⟩ := low_ex x (m := 5) (by decide) (by decide)
  unfold p_L_takes
  intro r1 z2 hS hI2
  obtain ⟨rfl, rfl⟩ := hS
  have hW := hI.1
  have hW2 := hI2.1
  have h10 := hW.2.1 (3 * s + l) (by omega)
  have t0 : TX z [] (txt z 0 (zb z)) := ⟨zb z, rfl, fun j hj => absurd hj (Nat.not_lt_zero _)⟩
  rw [show (5 : Int32) = nI 5 from rfl, em]
  refine tk_24 hW2 hs hl ?_ (zM (txt z 0 (zb z)) (4 + (3 * s + l))) 0 11 (by omega) (by show zM z _ < 11; omega)
  refine tk_48 hl (by omega) (fun L z48 hE hL ht hI48 => ?_) many 0 5 [] _ (by omega) (by omega) t0 rfl (Nat.zero_le _) hI2
  obtain ⟨b, ez, hb⟩ := ht
  have hAt := TX_At (z0 := z) hb
  have hzt : zt z48 = L.length := by rw [ez]; rfl
  have hzb : zb z48 = b := by rw [ez]; rfl
  have hzM : zM z48 = zM z := by rw [ez]; rfl
  have hzM2 : zM (txt z 0 (zb z)) = zM z := rfl
  obtain ⟨v1, v2⟩ := lsW_read (l := l) hl (by omega) hE hAt
  have lf : q_listFault z48 (nI l) = nM := by
    rw [q_listFault_ok hl, hzb, hzt]
    unfold fault
    rw [if_pos v1]
  have w6 : q_whole z48 (nI 6) = nI L.length := (q_whole_ok (by omega)).trans (by show nI (zt z48) = _; rw [hzt])
  simp only [zl, lf, w6]
  refine bnt nM_e.symm (bnt (by trivial) ?_)
  intro r z50 hS hI50
  rcases hS with ⟨h, -, -⟩ | ⟨s', l', hs', hl', e1, e2, h0, -, -⟩ | ⟨s', l', hs', hl', e1, e2, h1, rfl, e50⟩
  · exact absurd ⟨s, l, hs, hl, rfl, rfl⟩ h
  · obtain rfl : l' = l := (nI_u e2 (by omega) (by omega)).symm
    rw [hzb, hzt] at h0
    omega
  · obtain rfl : l' = l := (nI_u e2 (by omega) (by omega)).symm
    obtain rfl : s' = s := (nI_u e1 (by omega) (by omega)).symm
    rw [hzb, hzt, v2] at e50
    rw [hzb, hzt, v2]
    have hM50 : zM z50 = setL (zM z) (s' * 3 + l') many (lsW b L.length l').2.2.2 := by rw [e50, psh_M, hzM]
    obtain ⟨m1, m2⟩ := sm_setL (M := zM z) (V := (lsW b L.length l').2.2.2) (n := many) hs hl
    have e4 : zM z50 (4 + (3 * s' + l')) = many := by
      rw [hM50]
      unfold setL
      rw [if_pos (by omega)]
    have c4 := qe_slno (z := z50) (x := nI 0) hs hl (show many < 2147483648 by omega) (by omega)
    refine bnt rfl ?_
    rw [q_whole_s hs, q_whole_s hs, hM50, hzM2, m1, c4, nS.2.2.1 _ _ m2, nS.1]
    refine bnt rfl (brt rfl ?_)
    refine ⟨fun _ => k _ hI50, fun _ => ?_⟩
    intro r z52 hS hI52
    have hzc : zc z50 = cx (zc z48) := by rw [e50]; rfl
    have hcp := cx_pos (zc z48)
    have hc4 := cx_le hI48.2.2.1
    rcases hS with ⟨h, -, -⟩ | ⟨h, rfl, e52⟩
    · omega
    · have hM52 : zM z52 = zM z := by rw [e52, e50, pop_psh hI48.2.2.1, hzM]
      have ht52 : zt z52 = L.length := by rw [e52, e50]; exact hzt
      refine brf (by simp (disch := omega) only [nS]; omega) ?_
      rw [q_whole_s (z := z52) hs, hM52]
      refine bnt rfl ?_
      have w6' : q_whole z52 (nI 6) = nI L.length := (q_whole_ok (by omega)).trans (by show nI (zt z52) = _; rw [ht52])
      rw [w6']
      exact bnt rfl (k _ hI52)
end TK3

/-! the asking calls: the class's, as the law makes them, and the reference's -/
theorem i32_c (x : Int32) (hi : Nat) (h : hi < 2147483648) : (∃ w, w ≤ hi ∧ x = nI w) ∨ (∀ w, w ≤ hi → x ≠ nI w) := by
  rcases i32 x with e | ⟨v, hv, rfl⟩
  · exact Or.inr (fun w hw => (i32_n e).2.1 w (by omega))
  · by_cases q : v ≤ hi
    · exact Or.inl ⟨v, q, rfl⟩
    · refine Or.inr (fun w hw z => ?_)
      rw [show (nI v = nI w) = (v = w) from nS.2.2.2.2.2.2.2.2.2.1 v w hv (by omega)] at z
      omega
/-- a check 0 ≤ x ≤ hi, as the class writes it -/
theorem br_rng {x : Int32} {hi : Nat} {A B C : Prop} (h : hi < 2147483648) (h1 : ∀ w, w ≤ hi → x = nI w → B) (h0 : (∀ w, w ≤ hi → x ≠ nI w) → A ∧ C) : (x < nI 0 → A) ∧ (¬ x < nI 0 → (x ≤ nI hi → B) ∧ (¬ x ≤ nI hi → C)) := by
  rcases i32 x with e | ⟨v, hv, rfl⟩
  · obtain ⟨e1, e2, e3, e4⟩ := i32_n e
    have := h0 (fun w hw => e2 w (by omega))
    exact ⟨fun _ => this.1, fun z => absurd (by rw [e1]; trivial) z⟩
  · simp (disch := omega) only [nS]
    refine ⟨fun z => absurd z (by omega), fun _ => ⟨fun z => h1 v z rfl, fun z => (h0 (fun w hw q => ?_)).2⟩⟩
    rw [show (nI v = nI w) = (v = w) from nS.2.2.2.2.2.2.2.2.2.1 v w hv (by omega)] at q
    omega
/-- a check 0 ≤ x -/
theorem br_nn {x : Int32} {A B : Prop} (h1 : ∀ w, w < 2147483648 → x = nI w → A) (h0 : (∀ w, w < 2147483648 → x ≠ nI w) → B) : (nI 0 ≤ x → A) ∧ (¬ nI 0 ≤ x → B) := by
  rcases i32 x with e | ⟨v, hv, rfl⟩
  · obtain ⟨e1, e2, e3, e4⟩ := i32_n e
    refine ⟨fun z => absurd z (fun z => by rw [e3 0 (by decide)] at z; exact z), fun _ => h0 (fun w hw => e2 w hw)⟩
  · refine ⟨fun _ => h1 v hv rfl, fun z => absurd (by simp (disch := omega) only [nS]; omega) z⟩
theorem s_L_variant {N : Nat} {M : Nat → Nat} {kc x1 x2 : Int32} {st rc ll : Int32} {ps ws scs tr rks ord lo lp lb : Nat → Int32} {keys ranges : Nat → Int64} {sizes qs lengths names weights ties : Nat → Int32} {ou : Nat → Int64} {Q : Int32 → Int32 → Int32 → (Nat → Int32) → (Nat → Int32) → (Nat → Int32) → (Nat → Int32) → (Nat → Int32) → (Nat → Int32) → Int32 → (Nat → Int32) → (Nat → Int32) → (Nat → Int32) → (Nat → Int64) → Prop} (hN : 1000 < N) (hW : WF M) (hST : ST M (nI (M 0)) keys sizes qs lengths ranges names weights ties) (hD : OKD M st rc ps ws scs tr rks ord ll lo lp lb)
    (hno : (∀ v, v < M 0 → x1 ≠ nI v) → Q (nI 1) st rc ps ws scs tr rks ord ll lo lp lb ou)
    (hwh : ∀ v, v < M 0 → x1 = nI v → (∀ w, w ≤ 6 → x2 ≠ nI w) → Q (nI 2) st rc ps ws scs tr rks ord ll lo lp lb ou)
    (hok : ∀ v w, v < M 0 → x1 = nI v → w ≤ 6 → x2 = nI w → ∀ st rc ps ws scs tr rks ord ll lo lp lb, OKD M st rc ps ws scs tr rks ord ll lo lp lb → Q (nI 0) st rc ps ws scs tr rks ord ll lo lp lb (vp_updL ou 0 (vlV M v w).toInt64)) : p_L_variant N kc st (nI (M 0)) rc lengths names keys ranges ps weights ws qs scs ties sizes tr rks ord ll lo lp lb ou x1 x2 Q := by
  have h16 := hW.1
  unfold p_L_variant p_X5_variant
  simp (disch := omega) only [zl, nS]
  refine s_hasVariant h16 (fun v hv e => ⟨fun _ => ?_, fun z => absurd z (by decide)⟩) (fun e => ⟨fun z => absurd rfl z, fun _ => ⟨fun z => absurd z (by decide), fun _ => hno e⟩⟩)
  subst e
  refine br_rng (hi := 6) (by decide) (fun w hw e => ?_) (fun e => ⟨⟨fun _ => hwh v hv rfl e, fun z => absurd z (by decide)⟩, ⟨fun _ => hwh v hv rfl e, fun z => absurd z (by decide)⟩⟩)
  subst e
  refine s_settle hN hW hST hD (fun rc ps ws scs tr rks ord ll lo lp lb h1 h2 => ?_)
  exact s_variantValue hN hW hST.2.1 hST.2.2.1 hST.2.2.2.1 h1 h2 hv hw (hok v w hv rfl hw rfl (nI 0) rc ps ws scs tr rks ord ll lo lp lb (Or.inr ⟨rfl, h1, h2⟩))
theorem s_L_weight {N : Nat} {M : Nat → Nat} {kc x1 x2 x3 : Int32} {st rc ll : Int32} {ps ws scs tr rks ord lo lp lb : Nat → Int32} {keys ranges : Nat → Int64} {sizes qs lengths names weights ties : Nat → Int32} {ou : Nat → Int64} {Q : Int32 → Int32 → Int32 → (Nat → Int32) → (Nat → Int32) → (Nat → Int32) → (Nat → Int32) → (Nat → Int32) → (Nat → Int32) → Int32 → (Nat → Int32) → (Nat → Int32) → (Nat → Int32) → (Nat → Int64) → Prop} (hN : 1000 < N) (hW : WF M) (hST : ST M (nI (M 0)) keys sizes qs lengths ranges names weights ties) (hD : OKD M st rc ps ws scs tr rks ord ll lo lp lb)
    (hno : ¬ isL x1 x2 → Q (nI 1) st rc ps ws scs tr rks ord ll lo lp lb ou)
    (hno2 : isL x1 x2 → (∀ v, v < M 0 → x3 ≠ nI v) → Q (nI 1) st rc ps ws scs tr rks ord ll lo lp lb ou)
    (hok : ∀ s l v, s < 2 → l < 3 → x1 = nI s → x2 = nI l → v < M 0 → x3 = nI v → ∀ st rc ps ws scs tr rks ord ll lo lp lb, OKD M st rc ps ws scs tr rks ord ll lo lp lb → Q (nI 0) st rc ps ws scs tr rks ord ll lo lp lb (vp_updL ou 0 (nI (wE M 0 (s * 3 + l) v)).toInt64)) : p_L_weight N kc st (nI (M 0)) rc lengths names keys ranges ps weights ws qs scs ties sizes tr rks ord ll lo lp lb ou x1 x2 x3 Q := by
  have h16 := hW.1
  unfold p_L_weight p_X5_weight
  simp (disch := omega) only [zl, nS]
  refine s_isList5 (fun h => ⟨fun z => absurd z (by decide), fun _ => ?_⟩) (fun h => ⟨fun _ _ => hno h, fun z => absurd rfl z⟩)
  refine s_hasVariant h16 (fun v hv e => ⟨fun _ => ?_, fun z => absurd z (by decide)⟩) (fun e => ⟨fun z => absurd rfl z, fun _ _ => hno2 h e⟩)
  obtain ⟨s, l, hs, hl, rfl, rfl⟩ := h
  subst e
  refine s_settle hN hW hST hD (fun rc ps ws scs tr rks ord ll lo lp lb h1 h2 => ?_)
  refine s_slotOf (s_cellOf ?_)
  simp (disch := omega) only [nS]
  rw [h1.2.1 v hv _ (by omega)]
  exact ⟨by omega, hok s l v hs hl rfl rfl hv rfl (nI 0) rc ps ws scs tr rks ord ll lo lp lb (Or.inr ⟨rfl, h1, h2⟩)⟩
theorem s_L_counting {N : Nat} {M : Nat → Nat} {kc x1 x2 x3 : Int32} {st rc ll : Int32} {ps ws scs tr rks ord lo lp lb : Nat → Int32} {keys ranges : Nat → Int64} {sizes qs lengths names weights ties : Nat → Int32} {ou : Nat → Int64} {Q : Int32 → Int32 → Int32 → (Nat → Int32) → (Nat → Int32) → (Nat → Int32) → (Nat → Int32) → (Nat → Int32) → (Nat → Int32) → Int32 → (Nat → Int32) → (Nat → Int32) → (Nat → Int32) → (Nat → Int64) → Prop} (hN : 1000 < N) (hW : WF M) (hST : ST M (nI (M 0)) keys sizes qs lengths ranges names weights ties) (hD : OKD M st rc ps ws scs tr rks ord ll lo lp lb)
    (hno : ¬ isL x1 x2 → Q (nI 1) st rc ps ws scs tr rks ord ll lo lp lb ou)
    (hno2 : isL x1 x2 → (∀ v, v < M 0 → x3 ≠ nI v) → Q (nI 1) st rc ps ws scs tr rks ord ll lo lp lb ou)
    (hok : ∀ s l v, s < 2 → l < 3 → x1 = nI s → x2 = nI l → v < M 0 → x3 = nI v → ∀ st rc ps ws scs tr rks ord ll lo lp lb, OKD M st rc ps ws scs tr rks ord ll lo lp lb → Q (nI 0) st rc ps ws scs tr rks ord ll lo lp lb (vp_updL ou 0 (nP (plW M (s * 3 + l) v)).toInt64)) : p_L_counting N kc st (nI (M 0)) rc lengths names keys ranges ps weights ws qs scs ties sizes tr rks ord ll lo lp lb ou x1 x2 x3 Q := by
  have h16 := hW.1
  unfold p_L_counting p_X5_counting
  simp (disch := omega) only [zl, nS]
  refine s_isList5 (fun h => ⟨fun z => absurd z (by decide), fun _ => ?_⟩) (fun h => ⟨fun _ _ => hno h, fun z => absurd rfl z⟩)
  refine s_hasVariant h16 (fun v hv e => ⟨fun _ => ?_, fun z => absurd z (by decide)⟩) (fun e => ⟨fun z => absurd rfl z, fun _ _ => hno2 h e⟩)
  obtain ⟨s, l, hs, hl, rfl, rfl⟩ := h
  subst e
  refine s_settle hN hW hST hD (fun rc ps ws scs tr rks ord ll lo lp lb h1 h2 => ?_)
  refine s_slotOf (s_cellOf ?_)
  simp (disch := omega) only [nS]
  rw [h1.1 v hv _ (by omega)]
  rw [if_neg (by omega)]
  exact ⟨by omega, hok s l v hs hl rfl rfl hv rfl (nI 0) rc ps ws scs tr rks ord ll lo lp lb (Or.inr ⟨rfl, h1, h2⟩)⟩
theorem s_L_entry {N : Nat} {M : Nat → Nat} {kc x1 x2 x3 x4 : Int32} {st rc ll : Int32} {ps ws scs tr rks ord lo lp lb : Nat → Int32} {keys ranges : Nat → Int64} {sizes qs lengths names weights ties : Nat → Int32} {ou : Nat → Int64} {Q : Int32 → Int32 → Int32 → (Nat → Int32) → (Nat → Int32) → (Nat → Int32) → (Nat → Int32) → (Nat → Int32) → (Nat → Int32) → Int32 → (Nat → Int32) → (Nat → Int32) → (Nat → Int32) → (Nat → Int64) → Prop} (hN : 1000 < N) (hW : WF M) (hST : ST M (nI (M 0)) keys sizes qs lengths ranges names weights ties) (hD : OKD M st rc ps ws scs tr rks ord ll lo lp lb)
    (hno : (∀ l e, ¬ isE M x1 x2 x3 l e) → Q (nI 1) st rc ps ws scs tr rks ord ll lo lp lb ou)
    (hwh : ∀ l e, isE M x1 x2 x3 l e → (∀ w, w ≤ 3 → x4 ≠ nI w) → Q (nI 2) st rc ps ws scs tr rks ord ll lo lp lb ou)
    (hok : ∀ l e w, isE M x1 x2 x3 l e → w ≤ 3 → x4 = nI w → ∀ st rc ps ws scs tr rks ord ll lo lp lb, OKD M st rc ps ws scs tr rks ord ll lo lp lb → Q (nI 0) st rc ps ws scs tr rks ord ll lo lp lb (vp_updL ou 0 (nI (eV M l e w)).toInt64)) : p_L_entry N kc st (nI (M 0)) lengths rc names keys ranges ps weights ws qs scs ties sizes tr rks ord ll lo lp lb ou x1 x2 x3 x4 Q := by
  have h16 := hW.1
  unfold p_L_entry p_X5_entry
  simp (disch := omega) only [zl, nS]
  refine s_hasEntry hST.2.2.2.2.1 hW (fun l e h => ⟨fun _ => ?_, fun z => absurd z (by decide)⟩) (fun h => ⟨fun z => absurd rfl z, fun _ => ⟨fun z => absurd z (by decide), fun _ => hno h⟩⟩)
  refine br_rng (hi := 3) (by decide) (fun w hw e2 => ?_) (fun e2 => ⟨⟨fun _ => hwh l e h e2, fun z => absurd z (by decide)⟩, ⟨fun _ => hwh l e h e2, fun z => absurd z (by decide)⟩⟩)
  have hh := h
  obtain ⟨hl, he, s, k, hs, hk, el, rfl, rfl, rfl⟩ := hh
  subst e2
  refine s_settle hN hW hST hD (fun rc ps ws scs tr rks ord ll lo lp lb h1 h2 => ?_)
  refine s_slotOf ?_
  rw [show s * 3 + k = l by omega]
  exact s_entryValue hN hW hST.2.1 hST.2.2.2.2.2.1 hST.2.2.2.2.2.2.1 hST.2.2.2.2.2.2.2.1 h1.1 hl he hw (hok l e w h hw rfl (nI 0) rc ps ws scs tr rks ord ll lo lp lb (Or.inr ⟨rfl, h1, h2⟩))
theorem s_L_ranked {N : Nat} {M : Nat → Nat} {kc x1 : Int32} {st rc ll : Int32} {ps ws scs tr rks ord lo lp lb : Nat → Int32} {keys ranges : Nat → Int64} {sizes qs lengths names weights ties : Nat → Int32} {ou : Nat → Int64} {Q : Int32 → Int32 → Int32 → (Nat → Int32) → (Nat → Int32) → (Nat → Int32) → (Nat → Int32) → (Nat → Int32) → (Nat → Int32) → Int32 → (Nat → Int32) → (Nat → Int32) → (Nat → Int32) → (Nat → Int64) → Prop} (hN : 1000 < N) (hW : WF M) (hST : ST M (nI (M 0)) keys sizes qs lengths ranges names weights ties) (hD : OKD M st rc ps ws scs tr rks ord ll lo lp lb)
    (hno : (∀ p, p < 2147483648 → x1 ≠ nI p) → Q (nI 1) st rc ps ws scs tr rks ord ll lo lp lb ou)
    (hok : ∀ p, p < 2147483648 → x1 = nI p → ∀ st rc ps ws scs tr rks ord ll lo lp lb, OKD M st rc ps ws scs tr rks ord ll lo lp lb → Q (nI 0) st rc ps ws scs tr rks ord ll lo lp lb (vp_updL ou 0 (if p < (rkM M 0 0).1 then nI ((rkM M 0 0).2 p) else nM).toInt64)) : p_L_ranked N kc st rc (nI (M 0)) lengths names keys ranges ps weights ws qs scs ties sizes tr rks ord ll lo lp lb ou x1 Q := by
  have h16 := hW.1
  unfold p_L_ranked p_X5_ranked
  simp (disch := omega) only [zl, nS]
  refine br_nn (fun p hp e => ?_) (fun e _ => hno e)
  subst e
  refine s_settle hN hW hST hD (fun rc ps ws scs tr rks ord ll lo lp lb h1 h2 => ?_)
  have r1 := (rkM_lt M 0 0).1
  have d5 := h1.2.2.2.2.1
  have d6 := h1.2.2.2.2.2.1
  have hh := hok p hp rfl (nI 0) rc ps ws scs tr rks ord ll lo lp lb (Or.inr ⟨rfl, h1, h2⟩)
  rw [d5] at hh ⊢
  exact s_variantAt2 (by omega) hp d6 hh
theorem s_L_listed {N : Nat} {M : Nat → Nat} {kc x1 : Int32} {st rc ll : Int32} {ps ws scs tr rks ord lo lp lb : Nat → Int32} {keys ranges : Nat → Int64} {sizes qs lengths names weights ties : Nat → Int32} {ou : Nat → Int64} {Q : Int32 → Int32 → Int32 → (Nat → Int32) → (Nat → Int32) → (Nat → Int32) → (Nat → Int32) → (Nat → Int32) → (Nat → Int32) → Int32 → (Nat → Int32) → (Nat → Int32) → (Nat → Int32) → (Nat → Int64) → Prop} (hN : 1000 < N) (hW : WF M) (hST : ST M (nI (M 0)) keys sizes qs lengths ranges names weights ties) (hD : OKD M st rc ps ws scs tr rks ord ll lo lp lb)
    (hno : (∀ p, p < 2147483648 → x1 ≠ nI p) → Q (nI 1) st rc ps ws scs tr rks ord ll lo lp lb ou)
    (hok : ∀ p, p < 2147483648 → x1 = nI p → ∀ st rc ps ws scs tr rks ord ll lo lp lb, OKD M st rc ps ws scs tr rks ord ll lo lp lb → Q (nI 0) st rc ps ws scs tr rks ord ll lo lp lb (vp_updL ou 0 (if p < M 0 then nI (roM M p) else nM).toInt64)) : p_L_listed N kc st rc (nI (M 0)) lengths names keys ranges ps weights ws qs scs ties sizes tr rks ord ll lo lp lb ou x1 Q := by
  have h16 := hW.1
  unfold p_L_listed p_X5_listed
  simp (disch := omega) only [zl, nS]
  refine br_nn (fun p hp e => ?_) (fun e _ => hno e)
  subst e
  refine s_settle hN hW hST hD (fun rc ps ws scs tr rks ord ll lo lp lb h1 h2 => ?_)
  exact s_variantAt0 h16 hp h2.2.1 (hok p hp rfl (nI 0) rc ps ws scs tr rks ord ll lo lp lb (Or.inr ⟨rfl, h1, h2⟩))
theorem s_L_listingByte {N : Nat} {M : Nat → Nat} {kc x1 : Int32} {st rc ll : Int32} {ps ws scs tr rks ord lo lp lb : Nat → Int32} {keys ranges : Nat → Int64} {sizes qs lengths names weights ties : Nat → Int32} {ou : Nat → Int64} {Q : Int32 → Int32 → Int32 → (Nat → Int32) → (Nat → Int32) → (Nat → Int32) → (Nat → Int32) → (Nat → Int32) → (Nat → Int32) → Int32 → (Nat → Int32) → (Nat → Int32) → (Nat → Int32) → (Nat → Int64) → Prop} (hN : 1000 < N) (hW : WF M) (hST : ST M (nI (M 0)) keys sizes qs lengths ranges names weights ties) (hD : OKD M st rc ps ws scs tr rks ord ll lo lp lb)
    (hno : (∀ p, p < 2147483648 → x1 ≠ nI p) → Q (nI 1) st rc ps ws scs tr rks ord ll lo lp lb ou)
    (hok : ∀ p, p < 2147483648 → x1 = nI p → ∀ st rc ps ws scs tr rks ord ll lo lp lb, OKD M st rc ps ws scs tr rks ord ll lo lp lb → Q (nI 0) st rc ps ws scs tr rks ord ll lo lp lb (vp_updL ou 0 (if p < (lB M (M 0)).length then nI (gB (lB M (M 0)) p) else nM).toInt64)) : p_L_listingByte N kc st rc (nI (M 0)) lengths names keys ranges ps weights ws qs scs ties sizes tr rks ord ll lo lp lb ou x1 Q := by
  have h16 := hW.1
  unfold p_L_listingByte p_X5_listingByte
  simp (disch := omega) only [zl, nS]
  refine br_nn (fun p hp e => ?_) (fun e _ => hno e)
  subst e
  refine s_settle hN hW hST hD (fun rc ps ws scs tr rks ord ll lo lp lb h1 h2 => ?_)
  have hl := lB_len M (M 0)
  have hh := hok p hp rfl (nI 0) rc ps ws scs tr rks ord ll lo lp lb (Or.inr ⟨rfl, h1, h2⟩)
  rw [h2.1] at hh ⊢
  exact s_byteAt0 (by omega) hp h2.2.2.2 hh
theorem s_L_whole {N : Nat} {M : Nat → Nat} {kc x1 : Int32} {st rc ll : Int32} {ps ws scs tr rks ord lo lp lb : Nat → Int32} {keys ranges : Nat → Int64} {sizes qs lengths names weights ties : Nat → Int32} {ou : Nat → Int64} {Q : Int32 → Int32 → Int32 → (Nat → Int32) → (Nat → Int32) → (Nat → Int32) → (Nat → Int32) → (Nat → Int32) → (Nat → Int32) → Int32 → (Nat → Int32) → (Nat → Int32) → (Nat → Int32) → (Nat → Int64) → Prop} (hN : 1000 < N) (hW : WF M) (hST : ST M (nI (M 0)) keys sizes qs lengths ranges names weights ties) (hD : OKD M st rc ps ws scs tr rks ord ll lo lp lb) {tn : Nat}
    (hno : (∀ w, w ≤ 10 → x1 ≠ nI w) → Q (nI 1) st rc ps ws scs tr rks ord ll lo lp lb ou)
    (hok : ∀ w, w ≤ 10 → x1 = nI w → ∀ st rc ps ws scs tr rks ord ll lo lp lb, OKD M st rc ps ws scs tr rks ord ll lo lp lb → Q (nI 0) st rc ps ws scs tr rks ord ll lo lp lb (vp_updL ou 0 (wV M tn w).toInt64)) : p_L_whole N kc st rc (nI (M 0)) lengths names keys ranges ps weights ws qs scs ties sizes tr rks ord ll lo lp lb (nI tn) ou x1 Q := by
  have h16 := hW.1
  unfold p_L_whole p_X5_whole
  simp (disch := omega) only [zl, nS]
  refine br_rng (hi := 10) (by decide) (fun w hw e => ?_) (fun e => ⟨fun _ => hno e, fun _ => hno e⟩)
  subst e
  refine s_settle hN hW hST hD (fun rc ps ws scs tr rks ord ll lo lp lb h1 h2 => ?_)
  exact s_wholeValue hN hW hST.2.2.2.2.1 hST.2.2.2.2.2.2.2.2 h1 h2 hw (hok w hw rfl (nI 0) rc ps ws scs tr rks ord ll lo lp lb (Or.inr ⟨rfl, h1, h2⟩))
theorem s_L_servedWithout {N : Nat} {M : Nat → Nat} {kc x1 : Int32} {st rc ll : Int32} {ps ws scs tr rks ord lo lp lb : Nat → Int32} {keys ranges : Nat → Int64} {sizes qs lengths names weights ties : Nat → Int32} {ou : Nat → Int64} {Q : Int32 → Int32 → Int32 → (Nat → Int32) → (Nat → Int32) → (Nat → Int32) → (Nat → Int32) → (Nat → Int32) → (Nat → Int32) → Int32 → (Nat → Int32) → (Nat → Int32) → (Nat → Int32) → (Nat → Int64) → Prop} (hN : 1000 < N) (hW : WF M) (hST : ST M (nI (M 0)) keys sizes qs lengths ranges names weights ties) (hD : OKD M st rc ps ws scs tr rks ord ll lo lp lb)
    (hno : (∀ v, v < M 0 → x1 ≠ nI v) → Q (nI 1) st rc ps ws scs tr rks ord ll lo lp lb ou)
    (hok : ∀ v, v < M 0 → x1 = nI v → ∀ st rc ps ws scs tr rks ord ll lo lp lb, OKD M st rc ps ws scs tr rks ord ll lo lp lb → Q (nI 0) st rc ps ws scs tr rks ord ll lo lp lb (vp_updL ou 0 (nP (fiM M 0 (v + 1))).toInt64)) : p_L_servedWithout N kc st (nI (M 0)) rc lengths names keys ranges ps weights ws qs scs ties sizes tr rks ord ll lo lp lb ou x1 Q := by
  have h16 := hW.1
  unfold p_L_servedWithout p_X5_servedWithout
  simp (disch := omega) only [zl, nS]
  refine s_hasVariant h16 (fun v hv e => ⟨fun _ => ?_, fun z => absurd z (by decide)⟩) (fun e => ⟨fun z => absurd rfl z, fun _ _ => hno e⟩)
  subst e
  refine s_settle hN hW hST hD (fun rc ps ws scs tr rks ord ll lo lp lb h1 h2 => ?_)
  have hh := hok v hv rfl (nI 0) rc ps ws scs tr rks ord ll lo lp lb (Or.inr ⟨rfl, h1, h2⟩)
  have r1 := (rkM_lt M 0 0).1
  have r2 := (rkM_lt M 0 0).2
  have ew : fiM M 0 (v + 1) = if fiM M 0 0 = v + 1 then (if 1 < (rkM M 0 0).1 then (rkM M 0 0).2 1 + 1 else 0) else fiM M 0 0 := by
    have e1 : fiM M 0 (v + 1) = fi (aM M 0) (fun u => inM M 0 0 u ∧ u + 1 ≠ v + 1) (M 0) := by
      have : rk (aM M 0) (inM M 0 (v + 1)) (M 0) = rk (aM M 0) (fun u => inM M 0 0 u ∧ u + 1 ≠ v + 1) (M 0) := rk_congS (M 0) (fun u _ => ⟨fun a => ⟨⟨a.1, by omega⟩, a.2⟩, fun a => ⟨a.1.1, a.2⟩⟩)
      unfold fiM fi
      rw [this]
    rw [e1]
    exact fi_wo (aM_TO M 0)
  rw [ew] at hh
  have hle : fiM M 0 0 ≤ M 0 := fi_le _ _ _
  rw [h1.2.2.2.2.1] at hh ⊢
  refine s_variantAt2 (by omega) (by decide) h1.2.2.2.2.2.1 ?_
  rw [fiM_at]
  by_cases q : fiM M 0 0 = v + 1
  · rw [if_pos q] at hh
    rw [q, nP_s]
    refine ⟨fun z => absurd rfl z, fun _ => s_variantAt2 (by omega) (by decide) h1.2.2.2.2.2.1 ?_⟩
    by_cases r : 1 < (rkM M 0 0).1
    · rw [if_pos r, nP_s] at hh
      rw [if_pos r]
      exact hh
    · rw [if_neg r] at hh
      rw [if_neg r]
      exact hh
  · rw [if_neg q] at hh
    have e : ¬ nP (fiM M 0 0) = nI v := by
      intro z
      by_cases q0 : fiM M 0 0 = 0
      · rw [q0, nP_0, nSm.2.2.1 v (by omega)] at z; exact z
      · rw [nP_p q0, show (nI (fiM M 0 0 - 1) = nI v) = (fiM M 0 0 - 1 = v) from nS.2.2.2.2.2.2.2.2.2.1 _ v (by omega) (by omega)] at z
        omega
    exact ⟨fun _ => hh, fun z => absurd z e⟩
theorem s_servedWithoutSide {N es : Nat} {M : Nat → Nat} {kc st : Int32} {rc : Int32} {ps ws scs tr rks ord : Nat → Int32} {keys ranges : Nat → Int64} {sizes qs lengths names weights ties : Nat → Int32} {Q : Int32 → Int32 → (Nat → Int32) → (Nat → Int32) → (Nat → Int32) → (Nat → Int32) → (Nat → Int32) → (Nat → Int32) → Prop} (hN : 1000 < N) (hW : WF M) (hST : ST M (nI (M 0)) keys sizes qs lengths ranges names weights ties) (he : es ≤ 2) (hq : ∀ rc ps ws scs tr rks ord, Q (nP (fiM M es 0)) rc ps ws scs tr rks ord) : p_X5_servedWithoutSide N kc st rc (nI (M 0)) lengths names keys ranges ps weights ws qs scs ties sizes tr rks ord (nP es) Q := by
  have h16 := hW.1
  have r1 := (rkM_lt M es 0).1
  unfold p_X5_servedWithoutSide
  simp only [zl]
  refine s_workOut (es := es) hN hW he hST (fun rc ps ws scs tr rks ord h1 => ?_)
  rw [h1.2.2.2.2.1]
  refine s_variantAt2 (by omega) (by decide) h1.2.2.2.2.2.1 ?_
  rw [fiM_at]
  exact hq _ _ _ _ _ _ _
theorem s_L_servedFor {N : Nat} {M : Nat → Nat} {kc st x1 : Int32} {rc : Int32} {ps ws scs tr rks ord : Nat → Int32} {keys ranges : Nat → Int64} {sizes qs lengths names weights ties : Nat → Int32} {ou : Nat → Int64} {Q : Int32 → Int32 → (Nat → Int32) → (Nat → Int32) → (Nat → Int32) → (Nat → Int32) → (Nat → Int32) → (Nat → Int32) → (Nat → Int64) → Prop} (hN : 1000 < N) (hW : WF M) (hST : ST M (nI (M 0)) keys sizes qs lengths ranges names weights ties)
    (hno : (∀ s, s ≤ 1 → x1 ≠ nI s) → Q (nI 1) rc ps ws scs tr rks ord ou) (hok : ∀ s, s ≤ 1 → x1 = nI s → ∀ rc ps ws scs tr rks ord, Q (nI 0) rc ps ws scs tr rks ord (vp_updL ou 0 (nP (fiM M (2 - s) 0)).toInt64)) : p_L_servedFor N kc st rc (nI (M 0)) lengths names keys ranges ps weights ws qs scs ties sizes tr rks ord ou x1 Q := by
  unfold p_L_servedFor p_X5_servedFor
  simp (disch := omega) only [zl, nS]
  rcases i32_c x1 1 (by decide) with ⟨s, hs, rfl⟩ | e
  · simp (disch := omega) only [nS]
    refine ⟨fun z => absurd z (by omega), fun _ => ⟨fun _ => ?_, fun z => absurd (by omega) z⟩⟩
    have e1 : nI (1 - s) = nP (2 - s) := by rw [show 2 - s = (1 - s) + 1 by omega, nP_s]
    rw [e1]
    exact s_servedWithoutSide hN hW hST (by omega) (fun rc ps ws scs tr rks ord => hok s hs rfl rc ps ws scs tr rks ord)
  · refine ⟨fun _ _ => hno e, fun z => ⟨fun z2 => ?_, fun _ _ => hno e⟩⟩
    rcases i32 x1 with q | ⟨v, hv, rfl⟩
    · exact absurd (by rw [(i32_n q).1]; trivial) z
    · simp (disch := omega) only [nS] at z2
      exact absurd rfl (e v (by omega))
theorem s_X5_agree {N : Nat} {M : Nat → Nat} {kc st : Int32} {rc : Int32} {ps ws scs tr rks ord : Nat → Int32} {keys ranges : Nat → Int64} {sizes qs lengths names weights ties : Nat → Int32} {Q : Int32 → Int32 → (Nat → Int32) → (Nat → Int32) → (Nat → Int32) → (Nat → Int32) → (Nat → Int32) → (Nat → Int32) → Prop} (hN : 1000 < N) (hW : WF M) (hST : ST M (nI (M 0)) keys sizes qs lengths ranges names weights ties)
    (hok : ∀ rc ps ws scs tr rks ord, Q (if nP (fiM M 2 0) = nP (fiM M 1 0) then nI 1 else nI 0) rc ps ws scs tr rks ord) : p_X5_agree N kc st rc (nI (M 0)) lengths names keys ranges ps weights ws qs scs ties sizes tr rks ord Q := by
  unfold p_X5_agree
  simp only [zl]
  refine s_servedWithoutSide (es := 2) hN hW hST (by decide) (fun rc ps ws scs tr rks ord => ?_)
  refine s_servedWithoutSide (es := 1) hN hW hST (by decide) (fun rc ps ws scs tr rks ord => ?_)
  have hh := hok rc ps ws scs tr rks ord
  refine ⟨fun z => ?_, fun z => ?_⟩
  · rw [if_neg z] at hh; exact hh
  · rw [if_pos z] at hh; exact hh
theorem s_R_variant {N : Nat} {M : Nat → Nat} {c0 c1 c2 c3 c4 c5 c7 : Int32} {c8 : Int64} {x1 x2 : Int32} {m cts scs isIn ord row : Nat → Int32} {Q : Int32 → Int32 → Int32 → (Nat → Int32) → (Nat → Int32) → (Nat → Int32) → (Nat → Int32) → (Nat → Int32) → Prop} (hN : 1000 < N) (hW : WF M) (hm : RM M m)
    (hno : (∀ v, v < M 0 → x1 ≠ nI v) → ∀ a b c d e f, Q (nI 0) (nI 1) a b c d e f)
    (hwh : ∀ v, v < M 0 → x1 = nI v → (∀ w, w ≤ 6 → x2 ≠ nI w) → ∀ a b c d e f, Q (nI 0) (nI 2) a b c d e f)
    (hok : ∀ v w, v < M 0 → x1 = nI v → w ≤ 6 → x2 = nI w → ∀ a b c d e f, Q (vlV M v w) (nI 0) a b c d e f) : p_X6_variant N c0 c1 c2 c3 c4 c5 (nP 0) c7 c8 m cts scs isIn ord row x1 x2 Q := by
  have h16 := hW.1
  unfold p_X6_variant
  simp (disch := omega) only [zl, nS]
  refine s_isVariant6 hm hW (fun v hv e => ⟨fun _ => ?_, fun z => absurd z (by decide)⟩) (fun e => ⟨fun z => absurd rfl z, fun _ => hno e _ _ _ _ _ _⟩)
  subst e
  refine s_in0 (by decide) (fun w hw e => ⟨fun z => absurd z (by decide), fun _ => ?_⟩) (fun e => ⟨fun _ => hwh v hv rfl e _ _ _ _ _ _, fun z => absurd rfl z⟩)
  subst e
  refine s_survey hN hW hm (fun cts scs isIn ord g1 g2 g3 => s_list hN hW hm (fun row g4 => ?_))
  exact s_variantOf hN hW hm g1 g2 g3 g4 hv hw (hok v w hv rfl hw rfl _ _ _ _ _ _)
theorem s_R_weight {N : Nat} {M : Nat → Nat} {c0 c1 c2 c3 c4 c5 c7 : Int32} {c8 : Int64} {x1 x2 x3 : Int32} {m cts : Nat → Int32} {Q : Int32 → Int32 → (Nat → Int32) → Prop} (hN : 1000 < N) (hW : WF M) (hm : RM M m)
    (hno : ¬ isL x1 x2 → ∀ a, Q (nI 0) (nI 1) a)
    (hno2 : isL x1 x2 → (∀ v, v < M 0 → x3 ≠ nI v) → ∀ a, Q (nI 0) (nI 1) a)
    (hok : ∀ s l v, s < 2 → l < 3 → x1 = nI s → x2 = nI l → v < M 0 → x3 = nI v → ∀ a, Q (nI (wE M 0 (s * 3 + l) v)) (nI 0) a) : p_X6_weight N c0 c1 c2 c3 c4 c5 (nP 0) c7 c8 m cts x1 x2 x3 Q := by
  have h16 := hW.1
  unfold p_X6_weight
  simp (disch := omega) only [zl, nS]
  refine s_isList6 (fun h => ⟨fun z => absurd z (by decide), fun _ => ?_⟩) (fun h => ⟨fun _ => hno h _, fun z => absurd rfl z⟩)
  refine s_isVariant6 hm hW (fun v hv e => ⟨fun z => absurd z (by decide), fun _ => ?_⟩) (fun e => ⟨fun _ => hno2 h e _, fun z => absurd rfl z⟩)
  obtain ⟨s, l, hs, hl, rfl, rfl⟩ := h
  subst e
  refine s_count hN hW hm (fun cts' hC => s_listOf ?_)
  rw [show 3 * s + l = s * 3 + l by omega]
  exact s_weightIn (es := 0) hW hm hC (by omega) hv (by decide) (hok s l v hs hl rfl rfl hv rfl _)
theorem s_R_counting {N : Nat} {M : Nat → Nat} {c0 c1 c2 c3 c4 c5 c7 : Int32} {c8 : Int64} {x1 x2 x3 : Int32} {m : Nat → Int32} {Q : Int32 → Int32 → Prop} (hN : 1000 < N) (hW : WF M) (hm : RM M m)
    (hno : ¬ isL x1 x2 → Q (nI 0) (nI 1))
    (hno2 : isL x1 x2 → (∀ v, v < M 0 → x3 ≠ nI v) → Q (nI 0) (nI 1))
    (hok : ∀ s l v, s < 2 → l < 3 → x1 = nI s → x2 = nI l → v < M 0 → x3 = nI v → Q (nP (plW M (s * 3 + l) v)) (nI 0)) : p_X6_counting N c0 c1 c2 c3 c4 c5 (nP 0) c7 c8 m x1 x2 x3 Q := by
  have h16 := hW.1
  unfold p_X6_counting
  simp (disch := omega) only [zl, nS]
  refine s_isList6 (fun h => ⟨fun z => absurd z (by decide), fun _ => ?_⟩) (fun h => ⟨fun _ => hno h, fun z => absurd rfl z⟩)
  refine s_isVariant6 hm hW (fun v hv e => ⟨fun z => absurd z (by decide), fun _ => ?_⟩) (fun e => ⟨fun _ => hno2 h e, fun z => absurd rfl z⟩)
  obtain ⟨s, l, hs, hl, rfl, rfl⟩ := h
  subst e
  refine s_listOf ?_
  rw [show 3 * s + l = s * 3 + l by omega]
  exact s_countingIn hN hW hm (by omega) hv (hok s l v hs hl rfl rfl hv rfl)
theorem s_R_entry {N : Nat} {M : Nat → Nat} {c0 c1 c2 c3 c4 c5 c7 : Int32} {c8 : Int64} {x1 x2 x3 x4 : Int32} {m : Nat → Int32} {Q : Int32 → Int32 → Prop} (hN : 1000 < N) (hW : WF M) (hm : RM M m)
    (hno : (∀ l e, ¬ isE M x1 x2 x3 l e) → Q (nI 0) (nI 1))
    (hwh : ∀ l e, isE M x1 x2 x3 l e → (∀ w, w ≤ 3 → x4 ≠ nI w) → Q (nI 0) (nI 2))
    (hok : ∀ l e w, isE M x1 x2 x3 l e → w ≤ 3 → x4 = nI w → Q (nI (eV M l e w)) (nI 0)) : p_X6_entry N c0 c1 c2 c3 c4 c5 (nP 0) c7 c8 m x1 x2 x3 x4 Q := by
  have h16 := hW.1
  unfold p_X6_entry
  simp (disch := omega) only [zl, nS]
  refine s_isEntry6 hm hW (fun l e h => ⟨fun _ => ?_, fun z => absurd z (by decide)⟩) (fun h => ⟨fun z => absurd rfl z, fun _ => hno h⟩)
  refine s_in0 (by decide) (fun w hw e2 => ⟨fun z => absurd z (by decide), fun _ => ?_⟩) (fun e2 => ⟨fun _ => hwh l e h e2, fun z => absurd rfl z⟩)
  have hh := h
  obtain ⟨hl, he, s, k, hs, hk, el, rfl, rfl, rfl⟩ := hh
  subst e2
  refine s_listOf ?_
  rw [← el]
  exact s_entryOf hN hW hm hl he hw (hok l e w h hw rfl)
theorem s_R_ranked {N : Nat} {M : Nat → Nat} {c0 c1 c2 c3 c4 c5 c7 : Int32} {c8 : Int64} {x1 : Int32} {m cts scs isIn ord : Nat → Int32} {Q : Int32 → Int32 → Int32 → (Nat → Int32) → (Nat → Int32) → (Nat → Int32) → (Nat → Int32) → Prop} (hN : 1000 < N) (hW : WF M) (hm : RM M m)
    (hno : (∀ p, p < 2147483648 → x1 ≠ nI p) → ∀ a b c d e, Q (nI 0) (nI 1) a b c d e)
    (hok : ∀ p, p < 2147483648 → x1 = nI p → ∀ a b c d e, Q (if p < (rkM M 0 0).1 then nI ((rkM M 0 0).2 p) else nM) (nI 0) a b c d e) : p_X6_ranked N c0 c1 c2 c3 c4 c5 (nP 0) c7 c8 m cts scs isIn ord x1 Q := by
  have h16 := hW.1
  unfold p_X6_ranked
  simp (disch := omega) only [zl, nS]
  have r1 := (rkM_lt M 0 0).1
  refine br_nn (fun p hp e => ?_) (fun e => hno e _ _ _ _ _)
  subst e
  refine s_survey hN hW hm (fun cts scs isIn ord g1 g2 g3 => ?_)
  simp (disch := omega) only [nS]
  refine ⟨fun z => ?_, fun z => ⟨by omega, ?_⟩⟩
  · have hh := hok p hp rfl (nI (rkM M 0 0).1) cts scs isIn ord
    rw [if_neg (by omega)] at hh
    exact hh
  · have hh := hok p hp rfl (nI (rkM M 0 0).1) cts scs isIn ord
    rw [if_pos (by omega)] at hh
    rw [g2 p (by omega)]
    exact hh
theorem s_R_listed {N : Nat} {M : Nat → Nat} {c0 c1 c2 c3 c4 c5 c6 c7 : Int32} {c8 : Int64} {x1 : Int32} {m row : Nat → Int32} {Q : Int32 → Int32 → (Nat → Int32) → Prop} (hN : 1000 < N) (hW : WF M) (hm : RM M m)
    (hno : (∀ p, p < 2147483648 → x1 ≠ nI p) → ∀ a, Q (nI 0) (nI 1) a)
    (hok : ∀ p, p < 2147483648 → x1 = nI p → ∀ a, Q (if p < M 0 then nI (roM M p) else nM) (nI 0) a) : p_X6_listed N c0 c1 c2 c3 c4 c5 c6 c7 c8 m row x1 Q := by
  have h16 := hW.1
  unfold p_X6_listed
  simp (disch := omega) only [zl, nS]
  refine br_nn (fun p hp e => ?_) (fun e => hno e _)
  subst e
  refine s_list hN hW hm (fun row g4 => ?_)
  rw [hm 0 (by decide)]
  simp (disch := omega) only [nS]
  refine ⟨fun z => ?_, fun z => ⟨by omega, ?_⟩⟩
  · have hh := hok p hp rfl row
    rw [if_neg (by omega)] at hh
    exact hh
  · have hh := hok p hp rfl row
    rw [if_pos (by omega)] at hh
    rw [g4 p (by omega)]
    exact hh
theorem s_R_listingByte {N : Nat} {M : Nat → Nat} {c0 c1 c2 c3 c4 c5 c6 c7 : Int32} {c8 : Int64} {x1 : Int32} {m row ls : Nat → Int32} {Q : Int32 → Int32 → Int32 → (Nat → Int32) → (Nat → Int32) → Prop} (hN : 1000 < N) (hW : WF M) (hm : RM M m)
    (hno : (∀ p, p < 2147483648 → x1 ≠ nI p) → ∀ a b c, Q (nI 0) (nI 1) a b c)
    (hok : ∀ p, p < 2147483648 → x1 = nI p → ∀ a b c, Q (if p < (lB M (M 0)).length then nI (gB (lB M (M 0)) p) else nM) (nI 0) a b c) : p_X6_listingByte N c0 c1 c2 c3 c4 c5 c6 c7 c8 m row ls x1 Q := by
  have h16 := hW.1
  unfold p_X6_listingByte
  simp (disch := omega) only [zl, nS]
  have hl := lB_len M (M 0)
  refine br_nn (fun p hp e => ?_) (fun e => hno e _ _ _)
  subst e
  refine s_writeListing hN hW hm (fun row ls g4 g5 => ?_)
  simp (disch := omega) only [nS]
  refine ⟨fun z => ?_, fun z => ⟨by omega, ?_⟩⟩
  · have hh := hok p hp rfl (nI (lB M (M 0)).length) row ls
    rw [if_neg (by omega)] at hh
    exact hh
  · have hh := hok p hp rfl (nI (lB M (M 0)).length) row ls
    rw [if_pos (by omega)] at hh
    rw [g5 p (by omega)]
    exact hh
theorem s_R_whole {N : Nat} {M : Nat → Nat} {tn : Nat} {c0 c2 c3 c4 c5 c7 : Int32} {c8 : Int64} {x1 : Int32} {m cts scs isIn ord row ls : Nat → Int32} {Q : Int32 → Int32 → Int32 → Int32 → (Nat → Int32) → (Nat → Int32) → (Nat → Int32) → (Nat → Int32) → (Nat → Int32) → (Nat → Int32) → Prop} (hN : 1000 < N) (hW : WF M) (hm : RM M m)
    (hno : (∀ w, w ≤ 10 → x1 ≠ nI w) → ∀ a b c d e f g h, Q (nI 0) (nI 1) a b c d e f g h)
    (hok : ∀ w, w ≤ 10 → x1 = nI w → ∀ a b c d e f g h, Q (wV M tn w) (nI 0) a b c d e f g h) : p_X6_whole N c0 (nI tn) c2 c3 c4 c5 (nP 0) c7 c8 m cts scs isIn ord row ls x1 Q := by
  have h16 := hW.1
  unfold p_X6_whole
  simp (disch := omega) only [zl, nS]
  refine s_in0 (by decide) (fun w hw e => ⟨fun z => absurd z (by decide), fun _ => ?_⟩) (fun e => ⟨fun _ => hno e _ _ _ _ _ _ _ _, fun z => absurd rfl z⟩)
  subst e
  refine s_survey hN hW hm (fun cts scs isIn ord g1 g2 g3 => s_writeListing hN hW hm (fun row ls g4 g5 => ?_))
  exact s_wholeOf hN hW hm g2 g3 hw (hok w hw rfl _ _ _ _ _ _ _ _)
theorem s_servedBy {N s : Nat} {M : Nat → Nat} {c0 c1 c2 c3 c4 c5 c6 c7 x1 : Int32} {c8 : Int64} {m cts scs isIn ord : Nat → Int32} {Q : Int32 → Int32 → Int32 → (Nat → Int32) → (Nat → Int32) → (Nat → Int32) → (Nat → Int32) → Prop} (hN : 1000 < N) (hW : WF M) (hm : RM M m) (hs : s ≤ 1) (hx : x1 = nI s)
    (hok : ∀ a b c d e, Q (nP (fiM M (2 - s) 0)) a nM b c d e) : p_X6_servedBy N c0 c1 c2 c3 c4 c5 c6 c7 c8 m cts scs isIn ord x1 Q := by
  subst hx
  unfold p_X6_servedBy
  refine s_count hN hW hm (fun cts' hC => ?_)
  have e1 : (1 : Int32) - nI s = nP (2 - s) := by
    rw [show 2 - s = (1 - s) + 1 by omega, nP_s]
    exact pk_sub hs
  rw [e1]
  refine s_rank (es := 2 - s) (wo := 0) hN hW hm hC (by omega) (by decide) (fun scs isIn ord ho hs => ?_)
  exact s_served hW ho (hok _ _ _ _ _)
theorem s_R_servedFor {N : Nat} {M : Nat → Nat} {c0 c1 c2 c3 c4 c5 c7 : Int32} {c8 : Int64} {x1 : Int32} {m cts scs isIn ord : Nat → Int32} {Q : Int32 → Int32 → Int32 → Int32 → (Nat → Int32) → (Nat → Int32) → (Nat → Int32) → (Nat → Int32) → Prop} (hN : 1000 < N) (hW : WF M) (hm : RM M m)
    (hno : (∀ s, s ≤ 1 → x1 ≠ nI s) → Q (nI 0) (nI 1) c5 nM cts scs isIn ord)
    (hok : ∀ s, s ≤ 1 → x1 = nI s → ∀ a b c d e, Q (nP (fiM M (2 - s) 0)) (nI 0) a nM b c d e) : p_X6_servedFor N c0 c1 c2 c3 c4 c5 (nP 0) c7 c8 m cts scs isIn ord x1 Q := by
  have h16 := hW.1
  unfold p_X6_servedFor
  simp (disch := omega) only [zl, nS]
  refine s_in0 (by decide) (fun s hs e => ⟨fun z => absurd z (by decide), fun _ => s_servedBy hN hW hm hs e (fun a b c d f => hok s hs e a b c d f)⟩) (fun e => ⟨fun _ => hno e, fun z => absurd rfl z⟩)
theorem s_R_servedWithout {N : Nat} {M : Nat → Nat} {c0 c1 c2 c3 c4 c5 c7 : Int32} {c8 : Int64} {x1 : Int32} {m cts scs isIn ord : Nat → Int32} {Q : Int32 → Int32 → Int32 → (Nat → Int32) → (Nat → Int32) → (Nat → Int32) → (Nat → Int32) → Prop} (hN : 1000 < N) (hW : WF M) (hm : RM M m)
    (hno : (∀ v, v < M 0 → x1 ≠ nI v) → ∀ a b c d e, Q (nI 0) (nI 1) a b c d e)
    (hok : ∀ v, v < M 0 → x1 = nI v → ∀ a b c d e, Q (nP (fiM M 0 (v + 1))) (nI 0) a b c d e) : p_X6_servedWithout N c0 c1 c2 c3 c4 c5 (nP 0) c7 c8 m cts scs isIn ord x1 Q := by
  have h16 := hW.1
  unfold p_X6_servedWithout
  simp (disch := omega) only [zl, nS]
  refine s_isVariant6 hm hW (fun v hv e => ⟨fun z => absurd z (by decide), fun _ => ?_⟩) (fun e => ⟨fun _ => hno e _ _ _ _ _, fun z => absurd rfl z⟩)
  refine s_count hN hW hm (fun cts' hC => ?_)
  rw [show x1 = nP (v + 1) by rw [nP_s]; exact e]
  refine s_rank (es := 0) (wo := v + 1) hN hW hm hC (by decide) (by omega) (fun scs isIn ord ho hs => ?_)
  exact s_served hW ho (hok v hv e _ _ _ _ _)
theorem s_R_agree {N : Nat} {M : Nat → Nat} {c0 c1 c2 c3 c4 c5 c6 c7 : Int32} {c8 : Int64} {m cts scs isIn ord : Nat → Int32} {Q : Int32 → Int32 → Int32 → Int32 → (Nat → Int32) → (Nat → Int32) → (Nat → Int32) → (Nat → Int32) → Prop} (hN : 1000 < N) (hW : WF M) (hm : RM M m)
    (hok : ∀ a b c d e, Q (if nP (fiM M 2 0) = nP (fiM M 1 0) then nI 1 else nI 0) (nI 0) a nM b c d e) : p_X6_agree N c0 c1 c2 c3 c4 c5 c6 c7 c8 m cts scs isIn ord Q := by
  unfold p_X6_agree
  refine s_servedBy (s := 0) hN hW hm (by decide) rfl (fun a b c d e => ?_)
  refine s_servedBy (s := 1) hN hW hm (by decide) rfl (fun a b c d e => ?_)
  have hh := hok a b c d e
  refine ⟨fun z => ?_, fun z => ?_⟩
  · rw [if_neg z] at hh; exact hh
  · rw [if_pos z] at hh; exact hh

/-! the digest -/
def mx (h : Int64) (x : Int32) : Int64 := 31 * h + x.toInt64
/-- r values from the i-th on, mixed in -/
def fo (g : Nat → Int32) : Nat → Nat → Int64 → Int64
  | 0, _, h => h
  | r + 1, i, h => fo g r (i + 1) (mx h (g i))
noncomputable def fv (M : Nat → Nat) : Nat → Nat → Int64 → Int64
  | 0, _, h => h
  | r + 1, v, h => fv M r (v + 1) (fo (fun l => nI (wE M 0 l v)) 6 0 (fo (vlV M v) 7 0 h))
noncomputable def fe (M : Nat → Nat) (l : Nat) : Nat → Nat → Int64 → Int64
  | 0, _, h => h
  | r + 1, e, h => fe M l r (e + 1) (fo (fun w => nI (eV M l e w)) 4 0 h)
noncomputable def fl (M : Nat → Nat) : Nat → Nat → Int64 → Int64
  | 0, _, h => h
  | r + 1, l, h => fl M r (l + 1) (fe M l (M (4 + l)) 0 h)
noncomputable def dgM (M : Nat → Nat) (tn c : Nat) : Int64 := fo (fun i => nI (gB (lB M (M 0)) i)) (lB M (M 0)).length 0 (fo (fun p => nI ((rkM M 0 0).2 p)) (rkM M 0 0).1 0 (fl M 6 0 (fv M (M 0) 0 (fo (wV M tn) 11 0 (mx 12856 (nI c))))))
theorem s_mix {N : Nat} {h : Int64} {x : Int32} {Q : Int64 → Prop} (hq : Q (mx h x)) : p_X5_mix N h x Q := hq
theorem s_mix6 {N : Nat} {c0 c1 c2 c3 c4 c5 c6 c7 : Int32} {h : Int64} {x : Int32} {Q : Int64 → Prop} (hq : Q (mx h x)) : p_X6_mix N c0 c1 c2 c3 c4 c5 c6 c7 h x.toInt64 Q := hq
/-! the class -/
theorem s_mixVariants {N : Nat} {M : Nat → Nat} {kc st rc ll : Int32} {keys : Nat → Int64} {sizes qs ps ws scs tr rks ord lo lp lb : Nat → Int32} {h0 : Int64} {Q : Int64 → Prop} (hN : 1000 < N) (hW : WF M) (hK : KV M keys) (hS : SZ M sizes) (hQ : QL M qs) (hD : DR M 0 rc ps ws scs tr rks ord) (hL : DL M ll lo lp lb) (hq : Q (fv M (M 0) 0 h0)) : p_X5_mixVariants N kc st (nI (M 0)) sizes qs rc scs ws rks ll lp keys h0 Q := by
  have h16 := hW.1
  have vals : ∀ v, v < M 0 → ∀ (K : Int64 → Int32 → Prop) n r w h, w + r = 7 → r < n → K (fo (vlV M v) r w h) (nI 7) → p_X5_mixVariants_20 N h0 (nI v) kc st (nI (M 0)) sizes qs rc scs ws rks ll lp keys K n h (nI w) := by
    intro v hv K n
    induction n with
    | zero => intro r w h h1 h2; omega
    | succ n ih =>
      intro r w h h1 h2 hk
      unfold p_X5_mixVariants_20
      simp (disch := omega) only [zl, nS]
      refine ⟨fun z => ?_, fun z => ?_⟩
      · have : r = 0 := by omega
        subst this
        rw [show w = 7 by omega]
        exact hk
      · obtain ⟨r, rfl⟩ : ∃ r', r = r' + 1 := ⟨r - 1, by omega⟩
        exact s_variantValue hN hW hK hS hQ hD hL hv (by omega) (s_mix (ih r (w + 1) _ (by omega) (by omega) hk))
  have wts : ∀ v, v < M 0 → ∀ (K : Int64 → Int32 → Prop) n r l h, l + r = 6 → r < n → K (fo (fun l => nI (wE M 0 l v)) r l h) (nI 6) → p_X5_mixVariants_49 N h0 (nI v) kc st (nI (M 0)) sizes qs rc scs ws rks ll lp keys K n h (nI l) := by
    intro v hv K n
    induction n with
    | zero => intro r l h h1 h2; omega
    | succ n ih =>
      intro r l h h1 h2 hk
      unfold p_X5_mixVariants_49
      simp (disch := omega) only [zl, nS]
      refine ⟨fun z => ?_, fun z => s_cellOf ?_⟩
      · have : r = 0 := by omega
        subst this
        rw [show l = 6 by omega]
        exact hk
      · obtain ⟨r, rfl⟩ : ∃ r', r = r' + 1 := ⟨r - 1, by omega⟩
        simp (disch := omega) only [nS]
        rw [hD.2.1 v hv l (by omega)]
        exact ⟨by omega, s_mix (ih r (l + 1) _ (by omega) (by omega) hk)⟩
  have main : ∀ n r v h, v + r = M 0 → r < n → Q (fv M r v h) → p_X5_mixVariants_5 N h0 kc st (nI (M 0)) sizes qs rc scs ws rks ll lp keys (fun h _ => Q h) n h (nI v) := by
    intro n
    induction n with
    | zero => intro r v h h1 h2; omega
    | succ n ih =>
      intro r v h h1 h2 hk
      unfold p_X5_mixVariants_5
      simp (disch := omega) only [zl, nS]
      refine ⟨fun z => ?_, fun z => ?_⟩
      · have : r = 0 := by omega
        subst this
        exact hk
      · obtain ⟨r, rfl⟩ : ∃ r', r = r' + 1 := ⟨r - 1, by omega⟩
        exact vals v (by omega) _ N 7 0 h rfl (by omega) (wts v (by omega) _ N 6 0 _ rfl (by omega) (ih r (v + 1) _ (by omega) (by omega) hk))
  unfold p_X5_mixVariants
  simp only [zl]
  exact main N (M 0) 0 h0 (by omega) (by omega) hq
theorem s_mixEntries {N : Nat} {M : Nat → Nat} {kc st rc : Int32} {keys ranges : Nat → Int64} {lengths names weights ps : Nat → Int32} {h0 : Int64} {Q : Int64 → Prop} (hN : 1000 < N) (hW : WF M) (hLn : LN M lengths) (hK : KV M keys) (hR : RA M ranges) (hA : NA M names) (hWt : WA M weights) (hP : ∀ v, v < M 0 → PC M 0 v ps) (hq : Q (fl M 6 0 h0)) : p_X5_mixEntries N kc st (nI (M 0)) lengths weights names keys ranges rc ps h0 Q := by
  have h16 := hW.1
  have vals : ∀ l e, l < 6 → e < M (4 + l) → ∀ (K : Int64 → Int32 → Prop) n r w h, w + r = 4 → r < n → K (fo (fun w => nI (eV M l e w)) r w h) (nI 4) → p_X5_mixEntries_33 N h0 (nI l) (nI e) kc st (nI (M 0)) lengths weights names keys ranges rc ps K n h (nI w) := by
    intro l e hl he K n
    induction n with
    | zero => intro r w h h1 h2; omega
    | succ n ih =>
      intro r w h h1 h2 hk
      unfold p_X5_mixEntries_33
      simp (disch := omega) only [zl, nS]
      refine ⟨fun z => ?_, fun z => ?_⟩
      · have : r = 0 := by omega
        subst this
        rw [show w = 4 by omega]
        exact hk
      · obtain ⟨r, rfl⟩ : ∃ r', r = r' + 1 := ⟨r - 1, by omega⟩
        exact s_entryValue hN hW hK hR hA hWt hP hl he (by omega) (s_mix (ih r (w + 1) _ (by omega) (by omega) hk))
  have ents : ∀ l, l < 6 → ∀ (K : Int64 → Int32 → Prop) n r e h, e + r = M (4 + l) → r < n → K (fe M l r e h) (nI (M (4 + l))) → p_X5_mixEntries_15 N h0 (nI l) kc st (nI (M 0)) lengths weights names keys ranges rc ps K n h (nI e) := by
    intro l hl K n
    have h10 := hW.2.1 l hl
    induction n with
    | zero => intro r e h h1 h2; omega
    | succ n ih =>
      intro r e h h1 h2 hk
      unfold p_X5_mixEntries_15
      simp (disch := omega) only [zl, nS]
      rw [hLn l hl]
      simp (disch := omega) only [nS]
      refine ⟨by omega, fun z => ?_, fun z => ?_⟩
      · have : r = 0 := by omega
        subst this
        rw [show e = M (4 + l) by omega]
        exact hk
      · obtain ⟨r, rfl⟩ : ∃ r', r = r' + 1 := ⟨r - 1, by omega⟩
        exact vals l e hl (by omega) _ N 4 0 h rfl (by omega) (ih r (e + 1) _ (by omega) (by omega) hk)
  have main : ∀ n r l h, l + r = 6 → r < n → Q (fl M r l h) → p_X5_mixEntries_5 N h0 kc st (nI (M 0)) lengths weights names keys ranges rc ps (fun h _ => Q h) n h (nI l) := by
    intro n
    induction n with
    | zero => intro r l h h1 h2; omega
    | succ n ih =>
      intro r l h h1 h2 hk
      unfold p_X5_mixEntries_5
      simp (disch := omega) only [zl, nS]
      refine ⟨fun z => ?_, fun z => ?_⟩
      · have : r = 0 := by omega
        subst this
        exact hk
      · obtain ⟨r, rfl⟩ : ∃ r', r = r' + 1 := ⟨r - 1, by omega⟩
        have h10 := hW.2.1 l (by omega)
        exact ents l (by omega) _ N (M (4 + l)) 0 h (by omega) (by omega) (ih r (l + 1) _ (by omega) (by omega) hk)
  unfold p_X5_mixEntries
  simp only [zl]
  exact main N 6 0 h0 rfl (by omega) hq
theorem s_X5_digest {N tn c : Nat} {M : Nat → Nat} {st rc ll : Int32} {ps ws scs tr rks ord lo lp lb : Nat → Int32} {keys ranges : Nat → Int64} {sizes qs lengths names weights ties : Nat → Int32} {Q : Int64 → Int32 → Int32 → (Nat → Int32) → (Nat → Int32) → (Nat → Int32) → (Nat → Int32) → (Nat → Int32) → (Nat → Int32) → Int32 → (Nat → Int32) → (Nat → Int32) → (Nat → Int32) → Prop} (hN : 1000 < N) (hW : WF M) (hST : ST M (nI (M 0)) keys sizes qs lengths ranges names weights ties) (hD : OKD M st rc ps ws scs tr rks ord ll lo lp lb)
    (hok : ∀ st rc ps ws scs tr rks ord ll lo lp lb, OKD M st rc ps ws scs tr rks ord ll lo lp lb → Q (dgM M tn c) st rc ps ws scs tr rks ord ll lo lp lb) : p_X5_digest N (nI c) st rc (nI (M 0)) lengths names keys ranges ps weights ws qs scs ties sizes tr rks ord ll lo lp lb (nI tn) Q := by
  have h16 := hW.1
  unfold p_X5_digest
  refine s_settle hN hW hST hD (fun rc ps ws scs tr rks ord ll lo lp lb h1 h2 => s_mix ?_)
  have hh := hok (nI 0) rc ps ws scs tr rks ord ll lo lp lb (Or.inr ⟨rfl, h1, h2⟩)
  obtain ⟨-, hK, hS, hQ, hLn, hR, hA, hWt, hT⟩ := hST
  have whl : ∀ (K : Int64 → Int32 → Prop) n r w h, w + r = 11 → r < n → K (fo (wV M tn) r w h) (nI 11) → p_X5_digest_17 N (nI c) (nI 0) rc (nI (M 0)) lengths names keys ranges ps weights ws qs scs ties sizes tr rks ord ll lo lp lb (nI tn) K n h (nI w) := by
    intro K n
    induction n with
    | zero => intro r w h h1 h2; omega
    | succ n ih =>
      intro r w h g1 g2 hk
      unfold p_X5_digest_17
      simp (disch := omega) only [zl, nS]
      refine ⟨fun z => ?_, fun z => ?_⟩
      · have : r = 0 := by omega
        subst this
        rw [show w = 11 by omega]
        exact hk
      · obtain ⟨r, rfl⟩ : ∃ r', r = r' + 1 := ⟨r - 1, by omega⟩
        exact s_wholeValue hN hW hLn hT h1 h2 (by omega) (s_mix (ih r (w + 1) _ (by omega) (by omega) hk))
  have r1 := (rkM_lt M 0 0).1
  have rkd : ∀ (K : Int64 → Int32 → Prop) n r p h, p + r = (rkM M 0 0).1 → r < n → K (fo (fun p => nI ((rkM M 0 0).2 p)) r p h) (nI (rkM M 0 0).1) → p_X5_digest_53 N (nI c) (nI 0) rc (nI (M 0)) lengths names keys ranges ps weights ws qs scs ties sizes tr rks ord ll lo lp lb (nI tn) K n h (nI p) := by
    intro K n
    rw [h1.2.2.2.2.1]
    induction n with
    | zero => intro r p h h1 h2; omega
    | succ n ih =>
      intro r p h g1 g2 hk
      unfold p_X5_digest_53
      simp (disch := omega) only [zl, nS]
      refine ⟨fun z => ?_, fun z => ?_⟩
      · have : r = 0 := by omega
        subst this
        rw [show p = (rkM M 0 0).1 by omega]
        exact hk
      · obtain ⟨r, rfl⟩ : ∃ r', r = r' + 1 := ⟨r - 1, by omega⟩
        refine s_variantAt2 (by omega) (by omega) h1.2.2.2.2.2.1 ?_
        rw [if_pos (by omega)]
        exact s_mix (ih r (p + 1) _ (by omega) (by omega) hk)
  have hl6 := lB_len M (M 0)
  have byt : ∀ (K : Int64 → Int32 → Prop) n r i h, i + r = (lB M (M 0)).length → r < n → K (fo (fun i => nI (gB (lB M (M 0)) i)) r i h) (nI (lB M (M 0)).length) → p_X5_digest_85 N (nI c) (nI 0) rc (nI (M 0)) lengths names keys ranges ps weights ws qs scs ties sizes tr rks ord ll lo lp lb (nI tn) K n h (nI i) := by
    intro K n
    rw [h2.1]
    induction n with
    | zero => intro r i h h1 h2; omega
    | succ n ih =>
      intro r i h g1 g2 hk
      unfold p_X5_digest_85
      simp (disch := omega) only [zl, nS]
      refine ⟨fun z => ?_, fun z => ?_⟩
      · have : r = 0 := by omega
        subst this
        rw [show i = (lB M (M 0)).length by omega]
        exact hk
      · obtain ⟨r, rfl⟩ : ∃ r', r = r' + 1 := ⟨r - 1, by omega⟩
        refine s_byteAt0 (by omega) (by omega) h2.2.2.2 ?_
        rw [if_pos (by omega)]
        exact s_mix (ih r (i + 1) _ (by omega) (by omega) hk)
  unfold dgM at hh
  exact whl _ N 11 0 _ rfl (by omega) (s_mixVariants hN hW hK hS hQ h1 h2 (s_mixEntries hN hW hLn hK hR hA hWt h1.1 (rkd _ N _ 0 _ (by omega) (by omega) (byt _ N _ 0 _ (by omega) (by omega) hh))))
/-! the reference -/
theorem s_mixThings {N : Nat} {M : Nat → Nat} {c0 c1 c2 c3 c4 c7 : Int32} {m cts scs ord row : Nat → Int32} {h0 : Int64} {Q : Int64 → Prop} (hN : 1000 < N) (hW : WF M) (hm : RM M m) (hC : CT M cts) (ho : RO (rkM M 0 0).1 (rkM M 0 0).2 ord) (hs : ∀ v, v < M 0 → scs v = nI (scM M 0 v)) (hr : RO (M 0) (roM M) row) (hq : Q (fl M 6 0 (fv M (M 0) 0 h0))) : p_X6_mixThings N c0 c1 c2 c3 c4 (nI (rkM M 0 0).1) (nP 0) c7 h0 m scs cts ord row Q := by
  have h16 := hW.1
  have vals : ∀ v, v < M 0 → ∀ (K : Int32 → Int64 → Prop) n r w h, w + r = 7 → r < n → K (nI 7) (fo (vlV M v) r w h) → p_X6_mixThings_14 N (nI v) c0 c1 c2 c3 c4 (nI (rkM M 0 0).1) (nP 0) c7 m scs cts ord row K n (nI w) h := by
    intro v hv K n
    induction n with
    | zero => intro r w h h1 h2; omega
    | succ n ih =>
      intro r w h h1 h2 hk
      unfold p_X6_mixThings_14
      simp (disch := omega) only [zl, nS]
      refine ⟨fun z => ?_, fun z => ?_⟩
      · have : r = 0 := by omega
        subst this
        rw [show w = 7 by omega]
        exact hk
      · obtain ⟨r, rfl⟩ : ∃ r', r = r' + 1 := ⟨r - 1, by omega⟩
        exact s_variantOf hN hW hm hC ho hs hr hv (by omega) (s_mix6 (ih r (w + 1) _ (by omega) (by omega) hk))
  have wts : ∀ v, v < M 0 → ∀ (K : Int32 → Int64 → Prop) n r l h, l + r = 6 → r < n → K (nI 6) (fo (fun l => nI (wE M 0 l v)) r l h) → p_X6_mixThings_39 N (nI v) c0 c1 c2 c3 c4 (nI (rkM M 0 0).1) (nP 0) c7 m scs cts ord row K n (nI l) h := by
    intro v hv K n
    induction n with
    | zero => intro r l h h1 h2; omega
    | succ n ih =>
      intro r l h h1 h2 hk
      unfold p_X6_mixThings_39
      simp (disch := omega) only [zl, nS]
      refine ⟨fun z => ?_, fun z => ?_⟩
      · have : r = 0 := by omega
        subst this
        rw [show l = 6 by omega]
        exact hk
      · obtain ⟨r, rfl⟩ : ∃ r', r = r' + 1 := ⟨r - 1, by omega⟩
        exact s_weightIn (es := 0) hW hm hC (by omega) hv (by decide) (s_mix6 (ih r (l + 1) _ (by omega) (by omega) hk))
  have vars : ∀ (K : Int32 → Int64 → Prop) n r v h, v + r = M 0 → r < n → K (nI (M 0)) (fv M r v h) → p_X6_mixThings_2 N c0 c1 c2 c3 c4 (nI (rkM M 0 0).1) (nP 0) c7 m scs cts ord row K n (nI v) h := by
    intro K n
    induction n with
    | zero => intro r v h h1 h2; omega
    | succ n ih =>
      intro r v h h1 h2 hk
      unfold p_X6_mixThings_2
      simp (disch := omega) only [zl, nS]
      rw [hm 0 (by decide)]
      simp (disch := omega) only [nS]
      refine ⟨fun z => ?_, fun z => ?_⟩
      · have : r = 0 := by omega
        subst this
        rw [show v = M 0 by omega]
        exact hk
      · obtain ⟨r, rfl⟩ : ∃ r', r = r' + 1 := ⟨r - 1, by omega⟩
        exact vals v (by omega) _ N 7 0 h rfl (by omega) (wts v (by omega) _ N 6 0 _ rfl (by omega) (ih r (v + 1) _ (by omega) (by omega) hk))
  have ents : ∀ l, l < 6 → ∀ (K : Int32 → Int64 → Prop) n r e h, e + r = M (4 + l) → 4 * r < n → K (nI (4 * M (4 + l))) (fe M l r e h) → p_X6_mixThings_78 N (nI l) c0 c1 c2 c3 c4 (nI (rkM M 0 0).1) (nP 0) c7 m scs cts ord row K n (nI (4 * e)) h := by
    intro l hl K
    have h10 := hW.2.1 l hl
    have stp : ∀ e w, e < M (4 + l) → w < 4 → ∀ n h, p_X6_mixThings_78 N (nI l) c0 c1 c2 c3 c4 (nI (rkM M 0 0).1) (nP 0) c7 m scs cts ord row K n (nI (4 * e + (w + 1))) (mx h (nI (eV M l e w))) → p_X6_mixThings_78 N (nI l) c0 c1 c2 c3 c4 (nI (rkM M 0 0).1) (nP 0) c7 m scs cts ord row K (n + 1) (nI (4 * e + w)) h := by
      intro e w he hw n h hk
      unfold p_X6_mixThings_78
      simp (disch := omega) only [zl, nS]
      rw [hm (4 + l) (by omega)]
      simp (disch := omega) only [nS]
      rw [show (4 * e + w) / 4 = e by omega, show 4 * e + w - e * 4 = w by omega]
      exact ⟨by omega, fun z => absurd z (by omega), fun _ => s_entryOf hN hW hm hl he (by omega) (s_mix6 hk)⟩
    intro n r
    revert n
    induction r with
    | zero =>
      intro n e h h1 h2 hk
      obtain ⟨n, rfl⟩ : ∃ n', n = n' + 1 := ⟨n - 1, by omega⟩
      unfold p_X6_mixThings_78
      simp (disch := omega) only [zl, nS]
      rw [hm (4 + l) (by omega)]
      simp (disch := omega) only [nS]
      rw [show e = M (4 + l) by omega]
      exact ⟨by omega, fun _ => hk, fun z => absurd (Nat.le_refl _) z⟩
    | succ r ih =>
      intro n e h h1 h2 hk
      obtain ⟨n, rfl⟩ : ∃ n', n = n' + 1 + 1 + 1 + 1 := ⟨n - 4, by omega⟩
      refine stp e 0 (by omega) (by decide) _ h (stp e 1 (by omega) (by decide) _ _ (stp e 2 (by omega) (by decide) _ _ (stp e 3 (by omega) (by decide) _ _ ?_)))
      have := ih n (e + 1) (fo (fun w => nI (eV M l e w)) 4 0 h) (by omega) (by omega) hk
      rw [show 4 * (e + 1) = 4 * e + (3 + 1) by omega] at this
      exact this
  have main : ∀ n r l h, l + r = 6 → r < n → Q (fl M r l h) → p_X6_mixThings_70 N c0 c1 c2 c3 c4 (nI (rkM M 0 0).1) (nP 0) c7 m scs cts ord row (fun _ h => Q h) n (nI l) h := by
    intro n
    induction n with
    | zero => intro r l h h1 h2; omega
    | succ n ih =>
      intro r l h h1 h2 hk
      unfold p_X6_mixThings_70
      simp (disch := omega) only [zl, nS]
      refine ⟨fun z => ?_, fun z => ?_⟩
      · have : r = 0 := by omega
        subst this
        exact hk
      · obtain ⟨r, rfl⟩ : ∃ r', r = r' + 1 := ⟨r - 1, by omega⟩
        have h10 := hW.2.1 l (by omega)
        exact ents l (by omega) _ N (M (4 + l)) 0 h (by omega) (by omega) (ih r (l + 1) _ (by omega) (by omega) hk)
  unfold p_X6_mixThings
  simp only [zl]
  exact vars _ N (M 0) 0 h0 (by omega) (by omega) (main N 6 0 _ rfl (by omega) hq)
theorem s_R_digest {N tn c : Nat} {M : Nat → Nat} {c2 c3 c4 c5 c7 : Int32} {c8 : Int64} {m cts scs isIn ord row ls : Nat → Int32} {Q : Int64 → Int32 → Int32 → Int32 → Int64 → (Nat → Int32) → (Nat → Int32) → (Nat → Int32) → (Nat → Int32) → (Nat → Int32) → (Nat → Int32) → Prop} (hN : 1000 < N) (hW : WF M) (hm : RM M m)
    (hok : ∀ a b c' d e f g h i, Q (dgM M tn c) (nI 0) a b c' d e f g h i) : p_X6_digest N (nI c) (nI tn) c2 c3 c4 c5 (nP 0) c7 c8 m cts scs isIn ord row ls Q := by
  have h16 := hW.1
  have r1 := (rkM_lt M 0 0).1
  have hl6 := lB_len M (M 0)
  unfold p_X6_digest
  refine s_survey hN hW hm (fun cts scs isIn ord g1 g2 g3 => s_writeListing hN hW hm (fun row ls g4 g5 => s_mix6 ?_))
  have hh := fun c' => hok (nI (rkM M 0 0).1) (nI (lB M (M 0)).length) c' cts scs isIn ord row ls
  have whl : ∀ (K : Int32 → Int64 → Prop) n r w h, w + r = 11 → r < n → K (nI 11) (fo (wV M tn) r w h) → p_X6_digest_31 N (nI c) (nI tn) (nI 0) c3 c4 (nI (rkM M 0 0).1) (nP 0) (nI (lB M (M 0)).length) m cts scs isIn ord row ls K n (nI w) h := by
    intro K n
    induction n with
    | zero => intro r w h h1 h2; omega
    | succ n ih =>
      intro r w h h1 h2 hk
      unfold p_X6_digest_31
      simp (disch := omega) only [zl, nS]
      refine ⟨fun z => ?_, fun z => ?_⟩
      · have : r = 0 := by omega
        subst this
        rw [show w = 11 by omega]
        exact hk
      · obtain ⟨r, rfl⟩ : ∃ r', r = r' + 1 := ⟨r - 1, by omega⟩
        exact s_wholeOf hN hW hm g2 g3 (by omega) (s_mix6 (ih r (w + 1) _ (by omega) (by omega) hk))
  have rkd : ∀ (K : Int32 → Int64 → Prop) n r p h, p + r = (rkM M 0 0).1 → r < n → K (nI (rkM M 0 0).1) (fo (fun p => nI ((rkM M 0 0).2 p)) r p h) → p_X6_digest_59 N (nI c) (nI tn) (nI 0) c3 c4 (nI (rkM M 0 0).1) (nP 0) (nI (lB M (M 0)).length) m cts scs isIn ord row ls K n (nI p) h := by
    intro K n
    induction n with
    | zero => intro r p h h1 h2; omega
    | succ n ih =>
      intro r p h h1 h2 hk
      unfold p_X6_digest_59
      simp only [zl]
      simp (disch := omega) only [nS.2.2.2.2.1, nS.1, nS.2.2.2.2.2.2.2.1, nS.2.2.2.2.2.2.2.2.2.2]
      refine ⟨fun z => ?_, fun z => ⟨by omega, ?_⟩⟩
      · have : r = 0 := by omega
        subst this
        rw [show p = (rkM M 0 0).1 by omega]
        exact hk
      · obtain ⟨r, rfl⟩ : ∃ r', r = r' + 1 := ⟨r - 1, by omega⟩
        rw [g2 p (by omega)]
        exact s_mix6 (ih r (p + 1) _ (by omega) (by omega) hk)
  have byt : ∀ (K : Int32 → Int64 → Prop) n r i h, i + r = (lB M (M 0)).length → r < n → K (nI (lB M (M 0)).length) (fo (fun i => nI (gB (lB M (M 0)) i)) r i h) → p_X6_digest_86 N (nI c) (nI tn) (nI 0) c3 c4 (nI (rkM M 0 0).1) (nP 0) (nI (lB M (M 0)).length) m cts scs isIn ord row ls K n (nI i) h := by
    intro K n
    induction n with
    | zero => intro r i h h1 h2; omega
    | succ n ih =>
      intro r i h h1 h2 hk
      unfold p_X6_digest_86
      simp only [zl]
      simp (disch := omega) only [nS.2.2.2.2.1, nS.1, nS.2.2.2.2.2.2.2.1, nS.2.2.2.2.2.2.2.2.2.2]
      refine ⟨fun z => ?_, fun z => ⟨by omega, ?_⟩⟩
      · have : r = 0 := by omega
        subst this
        rw [show i = (lB M (M 0)).length by omega]
        exact hk
      · obtain ⟨r, rfl⟩ : ∃ r', r = r' + 1 := ⟨r - 1, by omega⟩
        rw [g5 i (by omega)]
        exact s_mix6 (ih r (i + 1) _ (by omega) (by omega) hk)
  unfold dgM at hh
  exact whl _ N 11 0 _ rfl (by omega) (s_mixThings hN hW hm g1 g2 g3 g4 (rkd _ N _ 0 _ (by omega) (by omega) (byt _ N _ 0 _ (by omega) (by omega) (hh _))))

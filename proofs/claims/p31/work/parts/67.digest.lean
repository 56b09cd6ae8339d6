/-! the digest -/
def mx (h : Int64) (x : Int32) : Int64 := 31 * h + x.toInt64
/-- r values from the i-th on, mixed in -/
def fo (g : Nat → Int32) : Nat → Nat → Int64 → Int64
  | 0, _, h => h
  | r + 1, i, h => fo g r (i + 1) (mx h (g i))
noncomputable def fv (M : Nat → Nat) : Nat → Nat → Int64 → Int64
  | 0, _, h => h
  | r + 1, v, h => fv M r (v + 1) (fo (fun l => nI (wE M 0 l v)) 6 0 (fo (vlV M v) 7 0 h))
noncomputable def fe (M : Nat → Nat) (l : Nat) : Nat → Nat → Int64 → Int64
  | 0, _, h => h
  | r + 1, e, h => fe M l r (e + 1) (fo (fun w => nI (eV M l e w)) 4 0 h)
noncomputable def fl (M : Nat → Nat) : Nat → Nat → Int64 → Int64
  | 0, _, h => h
  | r + 1, l, h => fl M r (l + 1) (fe M l (M (4 + l)) 0 h)
noncomputable def dgM (M : Nat → Nat) (tn c : Nat) : Int64 := fo (fun i => nI (gB (lB M (M 0)) i)) (lB M (M 0)).length 0 (fo (fun p => nI ((rkM M 0 0).2 p)) (rkM M 0 0).1 0 (fl M 6 0 (fv M (M 0) 0 (fo (wV M tn) 11 0 (mx 12856 (nI c))))))
theorem s_mix {N : Nat} {h : Int64} {x : Int32} {Q : Int64 → Prop} (hq : Q (mx h x)) : p_X5_mix N h x Q := hq
/-! the class -/
theorem s_mixVariants {N : Nat} {M : Nat → Nat} {kc st rc ll : Int32} {keys : Nat → Int64} {sizes qs ps ws scs tr rks ord lo lp lb : Nat → Int32} {h0 : Int64} {Q : Int64 → Prop} (hN : 1000 < N) (hW : WF M) (hK : KV M keys) (hS : SZ M sizes) (hQ : QL M qs) (hD : DR M 0 rc ps ws scs tr rks ord) (hL : DL M ll lo lp lb) (hq : Q (fv M (M 0) 0 h0)) : p_X5_mixVariants N kc st (nI (M 0)) sizes qs rc scs ws rks ll lp keys h0 Q := by
  have h16 := hW.1
  have vals : ∀ v, v < M 0 → ∀ (K : Int64 → Int32 → Prop) n r w h, w + r = 7 → r < n → K (fo (vlV M v) r w h) (nI 7) → p_X5_mixVariants_20 N h0 (nI v) kc st (nI (M 0)) sizes qs rc scs ws rks ll lp keys K n h (nI w) := by
    intro v hv K n
    induction n with
    | zero => intro r w h h1 h2; omega
    | succ n ih =>
      intro r w h h1 h2 hk
      unfold p_X5_mixVariants_20
      simp (disch := omega) only [zl, nS]
      refine ⟨fun z => ?_, fun z => ?_⟩
      · have : r = 0 := by omega
        subst this
        rw [show w = 7 by omega]
        exact hk
      · obtain ⟨r, rfl⟩ : ∃ r', r = r' + 1 := ⟨r - 1, by omega⟩
        exact s_variantValue hN hW hK hS hQ hD hL hv (by omega) (s_mix (ih r (w + 1) _ (by omega) (by omega) hk))
  have wts : ∀ v, v < M 0 → ∀ (K : Int64 → Int32 → Prop) n r l h, l + r = 6 → r < n → K (fo (fun l => nI (wE M 0 l v)) r l h) (nI 6) → p_X5_mixVariants_49 N h0 (nI v) kc st (nI (M 0)) sizes qs rc scs ws rks ll lp keys K n h (nI l) := by
    intro v hv K n
    induction n with
    | zero => intro r l h h1 h2; omega
    | succ n ih =>
      intro r l h h1 h2 hk
      unfold p_X5_mixVariants_49
      simp (disch := omega) only [zl, nS]
      refine ⟨fun z => ?_, fun z => s_cellOf ?_⟩
      · have : r = 0 := by omega
        subst this
        rw [show l = 6 by omega]
        exact hk
      · obtain ⟨r, rfl⟩ : ∃ r', r = r' + 1 := ⟨r - 1, by omega⟩
        simp (disch := omega) only [nS]
        rw [hD.2.1 v hv l (by omega)]
        exact ⟨by omega, s_mix (ih r (l + 1) _ (by omega) (by omega) hk)⟩
  have main : ∀ n r v h, v + r = M 0 → r < n → Q (fv M r v h) → p_X5_mixVariants_5 N h0 kc st (nI (M 0)) sizes qs rc scs ws rks ll lp keys (fun h _ => Q h) n h (nI v) := by
    intro n
    induction n with
    | zero => intro r v h h1 h2; omega
    | succ n ih =>
      intro r v h h1 h2 hk
      unfold p_X5_mixVariants_5
      simp (disch := omega) only [zl, nS]
      refine ⟨fun z => ?_, fun z => ?_⟩
      · have : r = 0 := by omega
        subst this
        exact hk
      · obtain ⟨r, rfl⟩ : ∃ r', r = r' + 1 := ⟨r - 1, by omega⟩
        exact vals v (by omega) _ N 7 0 h rfl (by omega) (wts v (by omega) _ N 6 0 _ rfl (by omega) (ih r (v + 1) _ (by omega) (by omega) hk))
  unfold p_X5_mixVariants
  simp only [zl]
  exact main N (M 0) 0 h0 (by omega) (by omega) hq
theorem s_mixEntries {N : Nat} {M : Nat → Nat} {kc st rc : Int32} {keys ranges : Nat → Int64} {lengths names weights ps : Nat → Int32} {h0 : Int64} {Q : Int64 → Prop} (hN : 1000 < N) (hW : WF M) (hLn : LN M lengths) (hK : KV M keys) (hR : RA M ranges) (hA : NA M names) (hWt : WA M weights) (hP : ∀ v, v < M 0 → PC M 0 v ps) (hq : Q (fl M 6 0 h0)) : p_X5_mixEntries N kc st (nI (M 0)) lengths weights names keys ranges rc ps h0 Q := by
  have h16 := hW.1
  have vals : ∀ l e, l < 6 → e < M (4 + l) → ∀ (K : Int64 → Int32 → Prop) n r w h, w + r = 4 → r < n → K (fo (fun w => nI (eV M l e w)) r w h) (nI 4) → p_X5_mixEntries_33 N h0 (nI l) (nI e) kc st (nI (M 0)) lengths weights names keys ranges rc ps K n h (nI w) := by
    intro l e hl he K n
    induction n with
    | zero => intro r w h h1 h2; omega
    | succ n ih =>
      intro r w h h1 h2 hk
      unfold p_X5_mixEntries_33
      simp (disch := omega) only [zl, nS]
      refine ⟨fun z => ?_, fun z => ?_⟩
      · have : r = 0 := by omega
        subst this
        rw [show w = 4 by omega]
        exact hk
      · obtain ⟨r, rfl⟩ : ∃ r', r = r' + 1 := ⟨r - 1, by omega⟩
        exact s_entryValue hN hW hK hR hA hWt hP hl he (by omega) (s_mix (ih r (w + 1) _ (by omega) (by omega) hk))
  have ents : ∀ l, l < 6 → ∀ (K : Int64 → Int32 → Prop) n r e h, e + r = M (4 + l) → r < n → K (fe M l r e h) (nI (M (4 + l))) → p_X5_mixEntries_15 N h0 (nI l) kc st (nI (M 0)) lengths weights names keys ranges rc ps K n h (nI e) := by
    intro l hl K n
    have h10 := hW.2.1 l hl
    induction n with
    | zero => intro r e h h1 h2; omega
    | succ n ih =>
      intro r e h h1 h2 hk
      unfold p_X5_mixEntries_15
      simp (disch := omega) only [zl, nS]
      rw [hLn l hl]
      simp (disch := omega) only [nS]
      refine ⟨by omega, fun z => ?_, fun z => ?_⟩
      · have : r = 0 := by omega
        subst this
        rw [show e = M (4 + l) by omega]
        exact hk
      · obtain ⟨r, rfl⟩ : ∃ r', r = r' + 1 := ⟨r - 1, by omega⟩
        exact vals l e hl (by omega) _ N 4 0 h rfl (by omega) (ih r (e + 1) _ (by omega) (by omega) hk)
  have main : ∀ n r l h, l + r = 6 → r < n → Q (fl M r l h) → p_X5_mixEntries_5 N h0 kc st (nI (M 0)) lengths weights names keys ranges rc ps (fun h _ => Q h) n h (nI l) := by
    intro n
    induction n with
    | zero => intro r l h h1 h2; omega
    | succ n ih =>
      intro r l h h1 h2 hk
      unfold p_X5_mixEntries_5
      simp (disch := omega) only [zl, nS]
      refine ⟨fun z => ?_, fun z => ?_⟩
      · have : r = 0 := by omega
        subst this
        exact hk
      · obtain ⟨r, rfl⟩ : ∃ r', r = r' + 1 := ⟨r - 1, by omega⟩
        have h10 := hW.2.1 l (by omega)
        exact ents l (by omega) _ N (M (4 + l)) 0 h (by omega) (by omega) (ih r (l + 1) _ (by omega) (by omega) hk)
  unfold p_X5_mixEntries
  simp only [zl]
  exact main N 6 0 h0 rfl (by omega) hq
theorem s_X5_digest {N tn c : Nat} {M : Nat → Nat} {st rc ll : Int32} {ps ws scs tr rks ord lo lp lb : Nat → Int32} {keys ranges : Nat → Int64} {sizes qs lengths names weights ties : Nat → Int32} {Q : Int64 → Int32 → Int32 → (Nat → Int32) → (Nat → Int32) → (Nat → Int32) → (Nat → Int32) → (Nat → Int32) → (Nat → Int32) → Int32 → (Nat → Int32) → (Nat → Int32) → (Nat → Int32) → Prop} (hN : 1000 < N) (hW : WF M) (hST : ST M (nI (M 0)) keys sizes qs lengths ranges names weights ties) (hD : OKD M st rc ps ws scs tr rks ord ll lo lp lb)
    (hok : ∀ st rc ps ws scs tr rks ord ll lo lp lb, OKD M st rc ps ws scs tr rks ord ll lo lp lb → Q (dgM M tn c) st rc ps ws scs tr rks ord ll lo lp lb) : p_X5_digest N (nI c) st rc (nI (M 0)) lengths names keys ranges ps weights ws qs scs ties sizes tr rks ord ll lo lp lb (nI tn) Q := by
  have h16 := hW.1
  unfold p_X5_digest
  refine s_settle hN hW hST hD (fun rc ps ws scs tr rks ord ll lo lp lb h1 h2 => s_mix ?_)
  have hh := hok (nI 0) rc ps ws scs tr rks ord ll lo lp lb (Or.inr ⟨rfl, h1, h2⟩)
  obtain ⟨-, hK, hS, hQ, hLn, hR, hA, hWt, hT⟩ := hST
  have whl : ∀ (K : Int64 → Int32 → Prop) n r w h, w + r = 11 → r < n → K (fo (wV M tn) r w h) (nI 11) → p_X5_digest_17 N (nI c) (nI 0) rc (nI (M 0)) lengths names keys ranges ps weights ws qs scs ties sizes tr rks ord ll lo lp lb (nI tn) K n h (nI w) := by
    intro K n
    induction n with
    | zero => intro r w h h1 h2; omega
    | succ n ih =>
      intro r w h g1 g2 hk
      unfold p_X5_digest_17
      simp (disch := omega) only [zl, nS]
      refine ⟨fun z => ?_, fun z => ?_⟩
      · have : r = 0 := by omega
        subst this
        rw [show w = 11 by omega]
        exact hk
      · obtain ⟨r, rfl⟩ : ∃ r', r = r' + 1 := ⟨r - 1, by omega⟩
        exact s_wholeValue hN hW hLn hT h1 h2 (by omega) (s_mix (ih r (w + 1) _ (by omega) (by omega) hk))
  have r1 := (rkM_lt M 0 0).1
  have rkd : ∀ (K : Int64 → Int32 → Prop) n r p h, p + r = (rkM M 0 0).1 → r < n → K (fo (fun p => nI ((rkM M 0 0).2 p)) r p h) (nI (rkM M 0 0).1) → p_X5_digest_53 N (nI c) (nI 0) rc (nI (M 0)) lengths names keys ranges ps weights ws qs scs ties sizes tr rks ord ll lo lp lb (nI tn) K n h (nI p) := by
    intro K n
    rw [h1.2.2.2.2.1]
    induction n with
    | zero => intro r p h h1 h2; omega
    | succ n ih =>
      intro r p h g1 g2 hk
      unfold p_X5_digest_53
      simp (disch := omega) only [zl, nS]
      refine ⟨fun z => ?_, fun z => ?_⟩
      · have : r = 0 := by omega
        subst this
        rw [show p = (rkM M 0 0).1 by omega]
        exact hk
      · obtain ⟨r, rfl⟩ : ∃ r', r = r' + 1 := ⟨r - 1, by omega⟩
        refine s_variantAt2 (by omega) (by omega) h1.2.2.2.2.2.1 ?_
        rw [if_pos (by omega)]
        exact s_mix (ih r (p + 1) _ (by omega) (by omega) hk)
  have hl6 := lB_len M (M 0)
  have byt : ∀ (K : Int64 → Int32 → Prop) n r i h, i + r = (lB M (M 0)).length → r < n → K (fo (fun i => nI (gB (lB M (M 0)) i)) r i h) (nI (lB M (M 0)).length) → p_X5_digest_85 N (nI c) (nI 0) rc (nI (M 0)) lengths names keys ranges ps weights ws qs scs ties sizes tr rks ord ll lo lp lb (nI tn) K n h (nI i) := by
    intro K n
    rw [h2.1]
    induction n with
    | zero => intro r i h h1 h2; omega
    | succ n ih =>
      intro r i h g1 g2 hk
      unfold p_X5_digest_85
      simp (disch := omega) only [zl, nS]
      refine ⟨fun z => ?_, fun z => ?_⟩
      · have : r = 0 := by omega
        subst this
        rw [show i = (lB M (M 0)).length by omega]
        exact hk
      · obtain ⟨r, rfl⟩ : ∃ r', r = r' + 1 := ⟨r - 1, by omega⟩
        refine s_byteAt0 (by omega) (by omega) h2.2.2.2 ?_
        rw [if_pos (by omega)]
        exact s_mix (ih r (i + 1) _ (by omega) (by omega) hk)
  unfold dgM at hh
  exact whl _ N 11 0 _ rfl (by omega) (s_mixVariants hN hW hK hS hQ h1 h2 (s_mixEntries hN hW hLn hK hR hA hWt h1.1 (rkd _ N _ 0 _ (by omega) (by omega) (byt _ N _ 0 _ (by omega) (by omega) hh))))
/-! the reference -/

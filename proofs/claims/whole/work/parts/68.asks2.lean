/-! the least weight and the least quality: the calls -/
theorem s_L_leastWeight {N : Nat} {M : Nat → Nat} {kc x1 x2 x3 x4 : Int32} {st rc ll : Int32} {ps ws scs tr rks ord lo lp lb : Nat → Int32} {keys ranges : Nat → Int64} {sizes qs lengths names weights ties : Nat → Int32} {ou : Nat → Int64} {Q : Int32 → Int32 → Int32 → (Nat → Int32) → (Nat → Int32) → (Nat → Int32) → (Nat → Int32) → (Nat → Int32) → (Nat → Int32) → Int32 → (Nat → Int32) → (Nat → Int32) → (Nat → Int32) → (Nat → Int64) → Prop} (hN : 2000 < N) (hW : WF M) (hST : ST M (nI (M 0)) keys sizes qs lengths ranges names weights ties) (hD : OKD M st rc ps ws scs tr rks ord ll lo lp lb)
    (hno : (∀ l e, ¬ isE M x1 x2 x3 l e) → Q (nI 1) st rc ps ws scs tr rks ord ll lo lp lb ou) (hno2 : ∀ l e, isE M x1 x2 x3 l e → (∀ v, v < M 0 → x4 ≠ nI v) → Q (nI 1) st rc ps ws scs tr rks ord ll lo lp lb ou)
    (hok : ∀ l e v, isE M x1 x2 x3 l e → v < M 0 → x4 = nI v → ∀ st rc ps ws scs tr rks ord ll lo lp lb, OKD M st rc ps ws scs tr rks ord ll lo lp lb → Q (nI 0) st rc ps ws scs tr rks ord ll lo lp lb (vp_updL ou 0 (nP (lsM (PS M (ec l e + 3) v))).toInt64)) : p_L_leastWeight N kc st (nI (M 0)) lengths rc names keys ranges ps weights ws qs scs ties sizes tr rks ord ll lo lp lb ou x1 x2 x3 x4 Q := by
  have h16 := hW.1
  unfold p_L_leastWeight p_X5_leastWeight
  simp (disch := omega) only [zl, nS]
  refine s_hasEntry hST.2.2.2.2.1 hW (fun l e h => ⟨fun z => absurd z (by decide), fun _ => ?_⟩) (fun h => ⟨fun _ _ => hno h, fun z => absurd rfl z⟩)
  refine s_hasVariant h16 (fun v hv e2 => ⟨fun _ => ?_, fun z => absurd z (by decide)⟩) (fun e2 => ⟨fun z => absurd rfl z, fun _ _ => hno2 l e h e2⟩)
  have hh := h
  obtain ⟨hl, he, s, k, hs, hk, el, rfl, rfl, rfl⟩ := hh
  subst e2
  refine s_settle (by omega) hW hST hD (fun rc ps ws scs tr rks ord ll lo lp lb h1 h2 => ?_)
  refine s_slotOf ?_
  rw [show s * 3 + k = l by omega]
  exact s_leastLeadingWeight hN hW hST.2.2.2.2.2.2.2.2 hST.2.2.2.1 h1.1 h1.2.1 h1.2.2.1 h1.2.2.2.1 hl he hv (hok l e v h hv rfl (nI 0) rc ps ws scs tr rks ord ll lo lp lb (Or.inr ⟨rfl, h1, h2⟩))
theorem s_L_leastQuality {N : Nat} {M : Nat → Nat} {kc x1 : Int32} {st rc ll : Int32} {ps ws scs tr rks ord lo lp lb : Nat → Int32} {keys ranges : Nat → Int64} {sizes qs lengths names weights ties : Nat → Int32} {ou : Nat → Int64} {Q : Int32 → Int32 → Int32 → (Nat → Int32) → (Nat → Int32) → (Nat → Int32) → (Nat → Int32) → (Nat → Int32) → (Nat → Int32) → Int32 → (Nat → Int32) → (Nat → Int32) → (Nat → Int32) → (Nat → Int64) → Prop} (hN : 2000 < N) (hW : WF M) (hST : ST M (nI (M 0)) keys sizes qs lengths ranges names weights ties) (hD : OKD M st rc ps ws scs tr rks ord ll lo lp lb)
    (hno : (∀ v, v < M 0 → x1 ≠ nI v) → Q (nI 1) st rc ps ws scs tr rks ord ll lo lp lb ou)
    (hok : ∀ v, v < M 0 → x1 = nI v → ∀ st rc ps ws scs tr rks ord ll lo lp lb, OKD M st rc ps ws scs tr rks ord ll lo lp lb → Q (nI 0) st rc ps ws scs tr rks ord ll lo lp lb (vp_updL ou 0 (nP (lsM (PS M (10 + 8 * v + 7) v))).toInt64)) : p_L_leastQuality N kc st (nI (M 0)) rc lengths names keys ranges ps weights ws qs scs ties sizes tr rks ord ll lo lp lb ou x1 Q := by
  have h16 := hW.1
  unfold p_L_leastQuality p_X5_leastQuality
  simp (disch := omega) only [zl, nS]
  refine s_hasVariant h16 (fun v hv e2 => ⟨fun _ => ?_, fun z => absurd z (by decide)⟩) (fun e2 => ⟨fun z => absurd rfl z, fun _ _ => hno e2⟩)
  subst e2
  refine s_settle (by omega) hW hST hD (fun rc ps ws scs tr rks ord ll lo lp lb h1 h2 => ?_)
  exact s_leastLeadingQuality (by omega) hW hST.2.2.2.2.2.2.2.2 (h1.2.1 v hv) h1.2.2.1 h1.2.2.2.1 hv (hok v hv rfl (nI 0) rc ps ws scs tr rks ord ll lo lp lb (Or.inr ⟨rfl, h1, h2⟩))
theorem s_R_leastWeight {N : Nat} {M : Nat → Nat} {c0 c1 c2 c3 c4 c5 c7 x1 x2 x3 x4 : Int32} {c8 : Int64} {m cts scs isIn ord : Nat → Int32} {Q : Int32 → Int32 → Int32 → (Nat → Int32) → (Nat → Int32) → (Nat → Int32) → (Nat → Int32) → (Nat → Int32) → Prop} (hN : 2000 < N) (hW : WF M) (hm : RM M m)
    (hno : (∀ l e, ¬ isE M x1 x2 x3 l e) → ∀ a m' b c d f, RM M m' → Q (nI 0) (nI 1) a m' b c d f) (hno2 : ∀ l e, isE M x1 x2 x3 l e → (∀ v, v < M 0 → x4 ≠ nI v) → ∀ a m' b c d f, RM M m' → Q (nI 0) (nI 1) a m' b c d f)
    (hok : ∀ l e v, isE M x1 x2 x3 l e → v < M 0 → x4 = nI v → ∀ a m' b c d f, RM M m' → Q (nP (lsM (PS M (ec l e + 3) v))) (nI 0) a m' b c d f) : p_X6_leastWeight N c0 c1 c2 c3 c4 c5 (nP 0) c7 c8 m cts scs isIn ord x1 x2 x3 x4 Q := by
  have h16 := hW.1
  unfold p_X6_leastWeight
  simp (disch := omega) only [zl, nS]
  refine s_isEntry6 hm hW (fun l e h => ⟨fun z => absurd z (by decide), fun _ => ?_⟩) (fun h => ⟨fun _ => hno h _ _ _ _ _ _ hm, fun z => absurd rfl z⟩)
  refine s_isVariant6 hm hW (fun v hv e2 => ⟨fun z => absurd z (by decide), fun _ => ?_⟩) (fun e2 => ⟨fun _ => hno2 l e h e2 _ _ _ _ _ _ hm, fun z => absurd rfl z⟩)
  have hh := h
  obtain ⟨hl, he, s, k, hs, hk, el, rfl, rfl, rfl⟩ := hh
  subst e2
  have h10 := hW.2.1 l hl
  refine s_listOf ?_
  rw [← el]
  simp (disch := omega) only [nS]
  exact s_leastIn (c := ec l e + 3) hN hW hm (CK_w hl (by omega)) (by omega) (fun x hx => setW_WF hW hl he hx) (fun a m' b c d f hm' => hok l e v h hv rfl _ _ _ _ _ _ hm')
theorem s_R_leastQuality {N : Nat} {M : Nat → Nat} {c0 c1 c2 c3 c4 c5 c7 x1 : Int32} {c8 : Int64} {m cts scs isIn ord : Nat → Int32} {Q : Int32 → Int32 → Int32 → (Nat → Int32) → (Nat → Int32) → (Nat → Int32) → (Nat → Int32) → (Nat → Int32) → Prop} (hN : 2000 < N) (hW : WF M) (hm : RM M m)
    (hno : (∀ v, v < M 0 → x1 ≠ nI v) → ∀ a m' b c d f, RM M m' → Q (nI 0) (nI 1) a m' b c d f)
    (hok : ∀ v, v < M 0 → x1 = nI v → ∀ a m' b c d f, RM M m' → Q (nP (lsM (PS M (10 + 8 * v + 7) v))) (nI 0) a m' b c d f) : p_X6_leastQuality N c0 c1 c2 c3 c4 c5 (nP 0) c7 c8 m cts scs isIn ord x1 Q := by
  have h16 := hW.1
  unfold p_X6_leastQuality
  simp (disch := omega) only [zl, nS]
  refine s_isVariant6 hm hW (fun v hv e2 => ⟨fun z => absurd z (by decide), fun _ => ?_⟩) (fun e2 => ⟨fun _ => hno e2 _ _ _ _ _ _ hm, fun z => absurd rfl z⟩)
  subst e2
  simp (disch := omega) only [nS]
  exact s_leastIn (c := 10 + 8 * v + 7) hN hW hm (CK_q (by omega)) (by omega) (fun x hx => setQ_WF hW hv hx) (fun a m' b c d f hm' => hok v hv rfl _ _ _ _ _ _ hm')

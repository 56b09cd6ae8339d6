/-! the reference's counting of all places; tie ranks on both sides -/
theorem s_count {N : Nat} {M : Nat → Nat} {c0 c1 c2 c3 c4 c5 c6 c7 : Int32} {c8 : Int64} {m cts : Nat → Int32} {Q : (Nat → Int32) → Prop} (hN : 1000 < N) (hW : WF M) (hm : RM M m) (hq : ∀ cts', CT M cts' → Q cts') : p_X6_count N c0 c1 c2 c3 c4 c5 c6 c7 c8 m cts Q := by
  have h16 := hW.1
  unfold p_X6_count
  simp (disch := omega) only [zl]
  have inner : ∀ (l : Nat), l < 6 → ∀ (K : Int32 → (Nat → Int32) → Prop), ∀ n v (ct : Nat → Int32), v ≤ M 0 → M 0 - v < n → (∀ k, k < l → ∀ w, w < M 0 → ct (16 * k + w) = nP (plW M k w)) → (∀ w, w < v → ct (16 * l + w) = nP (plW M l w)) → (∀ x ct', (∀ k, k < l + 1 → ∀ w, w < M 0 → ct' (16 * k + w) = nP (plW M k w)) → K x ct') → p_X6_count_10 N (nI l) c0 c1 c2 c3 c4 c5 c6 c7 c8 m K n (nI v) ct := by
    intro l hl K n
    induction n with
    | zero => intro v ct a b; omega
    | succ n ih =>
      intro v ct hv hn h1 h2 hk
      unfold p_X6_count_10
      simp (disch := omega) only [zl, nS]
      rw [hm 0 (by decide)]
      simp (disch := omega) only [nS]
      refine ⟨fun h => hk _ _ (fun k hk2 w hw => ?_), fun h => s_countingIn hN hW hm hl (by omega) ⟨by omega, ih (v + 1) _ (by omega) (by omega) (fun k hk2 w hw => ?_) (fun w hw => ?_) hk⟩⟩
      · by_cases q : k = l
        · subst q; exact h2 w (by omega)
        · exact h1 k (by omega) w hw
      · rw [upd_at, if_neg (by omega)]; exact h1 k hk2 w hw
      · rw [upd_at]
        by_cases q : w = v
        · subst q; rw [if_pos rfl]
        · rw [if_neg (by omega)]; exact h2 w (by omega)
  have outer : ∀ n l (ct : Nat → Int32), l ≤ 6 → 6 - l < n → (∀ k, k < l → ∀ w, w < M 0 → ct (16 * k + w) = nP (plW M k w)) → p_X6_count_2 N c0 c1 c2 c3 c4 c5 c6 c7 c8 m (fun _ ct => Q ct) n (nI l) ct := by
    intro n
    induction n with
    | zero => intro l ct a b; omega
    | succ n ih =>
      intro l ct hl hn h1
      unfold p_X6_count_2
      simp (disch := omega) only [zl, nS]
      refine ⟨fun h => hq _ (fun k hk w hw => h1 k (by omega) w hw), fun h => inner l (by omega) _ N 0 ct (by omega) (by omega) h1 (fun w hw => absurd hw (by omega)) (fun x ct' h2 => ih (l + 1) ct' (by omega) (by omega) h2)⟩
  exact outer N 0 cts (by omega) (by omega) (fun k hk => absurd hk (by omega))
/-- the side-0 place of kind k as tie ranks see it: 100 for none -/
def tP (M : Nat → Nat) (es k v : Nat) : Nat := if 1 = es then 100 else if plW M k v = 0 then 100 else plW M k v - 1
/-- what a rule makes of a variant; q: its quality -/
def tR (M : Nat → Nat) (es v q rule : Nat) : Int32 := if rule = 1 then nI (M (10 + 8 * v + 6)) else if rule = 2 then -nI (M (10 + 8 * v + 6)) else if rule = 3 then nI (tP M es 0 v) else if rule = 4 then nI (tP M es 1 v) else if rule = 5 then -nI q else nI 0
theorem tR_o {M : Nat → Nat} {es v q rule : Nat} (h : rule < 1 ∨ 5 < rule) : tR M es v q rule = nI 0 := by
  unfold tR
  rw [if_neg (by omega), if_neg (by omega), if_neg (by omega), if_neg (by omega), if_neg (by omega)]
theorem s_placeFor {N es k v : Nat} {M : Nat → Nat} {c0 c1 c2 c3 c4 c5 c7 : Int32} {c8 : Int64} {counts : Nat → Int32} {Q : Int32 → Prop} (hW : WF M) (hC : CT M counts) (hk : k < 2) (hv : v < M 0) (he : es ≤ 2) (hq : Q (nI (tP M es k v))) : p_X6_placeFor N c0 c1 c2 c3 c4 c5 (nP es) c7 c8 counts (nI k) (nI v) Q := by
  have hpl := plW_le M k v
  have h10 := hW.2.1 k (by omega)
  unfold p_X6_placeFor
  unfold tP at hq
  refine s_entryFor hW hC (by omega) hv he ?_
  simp (disch := omega) only [zl, nSm]
  rw [show k / 3 + 1 = 1 by omega]
  by_cases q : 1 = es
  · rw [if_pos q] at hq
    rw [if_pos q, nP_e (by omega)]
    exact ⟨fun z => absurd rfl z, fun _ => hq⟩
  · rw [if_neg q] at hq
    rw [if_neg q, nP_e (by omega)]
    refine ⟨fun z => ?_, fun z => ?_⟩
    · rw [if_neg z] at hq; rw [nP_p z]; exact hq
    · rw [if_pos z] at hq; exact hq
theorem s_ruled {N es v rule : Nat} {M : Nat → Nat} {c0 c1 c2 c3 c4 c5 c7 : Int32} {c8 : Int64} {m counts : Nat → Int32} {Q : Int32 → Prop} (hW : WF M) (hm : RM M m) (hC : CT M counts) (hv : v < M 0) (hr : rule ≤ 5) (he : es ≤ 2) (hq : Q (tR M es v (M (10 + 8 * v + 7)) rule)) : p_X6_ruled N c0 c1 c2 c3 c4 c5 (nP es) c7 c8 m counts (nI rule) (nI v) Q := by
  have h16 := hW.1
  unfold p_X6_ruled
  simp (disch := omega) only [zl, nS]
  refine ⟨fun h => ?_, fun h => s_of hm (by omega) (by decide) ?_, fun h => s_of hm (by omega) (by decide) ?_, fun h => s_placeFor hW hC (by decide) hv he ?_, fun h => s_placeFor hW hC (by decide) hv he ?_, fun h => s_of hm (by omega) (by decide) ?_⟩
  · rw [tR_o (by omega)] at hq; exact hq
  · have : rule = 1 := by omega
    subst this; exact hq
  · have : rule = 2 := by omega
    subst this; exact hq
  · have : rule = 3 := by omega
    subst this; exact hq
  · have : rule = 4 := by omega
    subst this; exact hq
  · have : rule = 5 := by omega
    subst this; exact hq
/-- the class's places of variant v: cell v * 6 + l -/
def PC (M : Nat → Nat) (es v : Nat) (ps : Nat → Int32) : Prop := ∀ l, l < 6 → ps (v * 6 + l) = nP (if l / 3 + 1 = es then 0 else plW M l v)
theorem s_placeRank {N es k v : Nat} {M : Nat → Nat} {c0 : Int32} {ps : Nat → Int32} {Q : Int32 → Prop} (hW : WF M) (hP : PC M es v ps) (hk : k < 2) (hv : v < M 0) (hq : Q (nI (tP M es k v))) : p_X2_placeRank N c0 ps (nI v) (nI k) Q := by
  have h16 := hW.1
  have hpl := plW_le M k v
  have h10 := hW.2.1 k (by omega)
  unfold p_X2_placeRank
  unfold tP at hq
  simp (disch := omega) only [zl, nSm]
  refine s_slotOf (s_cellOf ?_)
  simp (disch := omega) only [nS]
  rw [show v * 6 + (0 * 3 + k) = v * 6 + k by omega, hP k (by omega), show k / 3 + 1 = 1 by omega]
  refine ⟨by omega, ?_⟩
  by_cases q : 1 = es
  · rw [if_pos q] at hq
    rw [if_pos q, nP_e (by omega)]
    exact ⟨fun z => absurd rfl z, fun _ => hq⟩
  · rw [if_neg q] at hq
    rw [if_neg q, nP_e (by omega)]
    refine ⟨fun z => ?_, fun z => ?_⟩
    · rw [if_neg z] at hq; rw [nP_p z]; exact hq
    · rw [if_pos z] at hq; exact hq
theorem s_tieRank {N es v rule : Nat} {M : Nat → Nat} {c0 c1 : Int32} {sizes ps qs : Nat → Int32} {Q : Int32 → Prop} (hW : WF M) (hS : SZ M sizes) (hP : PC M es v ps) (hQ : QL M qs) (hv : v < M 0) (hr : rule ≤ 5) (hq : Q (tR M es v (M (10 + 8 * v + 7)) rule)) : p_X2_tieRank N c0 c1 sizes ps qs (nI rule) (nI v) Q := by
  have h16 := hW.1
  unfold p_X2_tieRank
  simp (disch := omega) only [zl, nS]
  rw [hS v hv, hQ v hv]
  refine ⟨fun h => ?_, fun h => ⟨by omega, ?_⟩, fun h => ⟨by omega, ?_⟩, fun h => s_placeRank hW hP (by decide) hv ?_, fun h => s_placeRank hW hP (by decide) hv ?_, fun h => ⟨by omega, ?_⟩⟩
  · rw [tR_o (by omega)] at hq; exact hq
  · have : rule = 1 := by omega
    subst this; exact hq
  · have : rule = 2 := by omega
    subst this; exact hq
  · have : rule = 3 := by omega
    subst this; exact hq
  · have : rule = 4 := by omega
    subst this; exact hq
  · have : rule = 5 := by omega
    subst this; exact hq

/-! the ranking, on both sides -/
def scM (M : Nat → Nat) (es v : Nat) : Nat := scE M es v (M (10 + 8 * v + 7))
def aM (M : Nat → Nat) (es u w : Nat) : Prop := ahd M es u (M (10 + 8 * u + 7)) (scM M es u) w (M (10 + 8 * w + 7)) (scM M es w)
def inM (M : Nat → Nat) (es wo v : Nat) : Prop := 0 < scM M es v ∧ v + 1 ≠ wo
noncomputable def rkM (M : Nat → Nat) (es wo : Nat) : Nat × (Nat → Nat) := rk (aM M es) (inM M es wo) (M 0)
theorem tie_trans {M : Nat → Nat} {es u qu w qw x qx : Nat} : ∀ (r i : Nat), tie M es u qu w qw r i → tie M es w qw x qx r i → tie M es u qu x qx r i
  | 0, _, h, h2 => by
    have a : u < w := h
    have b : w < x := h2
    show u < x
    omega
  | r + 1, i, h, h2 => by
    unfold tie at h h2 ⊢
    by_cases e : tR M es u qu (M (1 + i)) = tR M es w qw (M (1 + i))
    · by_cases e2 : tR M es w qw (M (1 + i)) = tR M es x qx (M (1 + i))
      · exact ⟨fun _ => tie_trans r (i + 1) (h.1 e) (h2.1 e2), fun z => absurd (e.trans e2) z⟩
      · have b := h2.2 e2
        rw [← e] at b e2
        exact ⟨fun z => absurd z e2, fun _ => b⟩
    · have a := h.2 e
      by_cases e2 : tR M es w qw (M (1 + i)) = tR M es x qx (M (1 + i))
      · rw [e2] at a e
        exact ⟨fun z => absurd z e, fun _ => a⟩
      · have b := h2.2 e2
        have a' := Int32.lt_iff_toInt_lt.mp a
        have b' := Int32.lt_iff_toInt_lt.mp b
        have c : tR M es u qu (M (1 + i)) < tR M es x qx (M (1 + i)) := Int32.lt_iff_toInt_lt.mpr (by omega)
        exact ⟨fun z => by rw [z] at a'; omega, fun _ => c⟩
theorem ahd_trans {M : Nat → Nat} {es u qu su w qw sw x qx sx : Nat} (h : ahd M es u qu su w qw sw) (h2 : ahd M es w qw sw x qx sx) : ahd M es u qu su x qx sx := by
  unfold ahd at *
  rcases h with h | h
  · rcases h2 with h2 | h2
    · exact Or.inl (by omega)
    · exact Or.inl (by omega)
  · rcases h2 with h2 | h2
    · exact Or.inl (by omega)
    · exact Or.inr ⟨by omega, tie_trans 3 0 h.2 h2.2⟩
theorem aM_TO (M : Nat → Nat) (es : Nat) : TO (aM M es) := ⟨fun u w h => ahd_tot h, fun u w h => ahd_asym h, fun u w x h h2 => ahd_trans h h2⟩
theorem scM_le {M : Nat → Nat} (hW : WF M) {es v : Nat} (hv : v < M 0) : scM M es v ≤ 1000 := Nat.le_trans (scF_le hW 6 0 _ (by decide)) (hW.2.2.2.1 v hv).2.2.2.2
theorem rkM_lt (M : Nat → Nat) (es wo : Nat) : (rkM M es wo).1 ≤ M 0 ∧ ∀ i, i < (rkM M es wo).1 → (rkM M es wo).2 i < M 0 := rk_lt _ _ _
/-! the class -/
theorem s_rankOne_23 {N v k es : Nat} {f : Nat → Nat} {M : Nat → Nat} {c0 : Int32} {scs qs ties tr : Nat → Int32} {K : Int32 → (Nat → Int32) → Prop} (hN : 1000 < N) (hW : WF M) (hT : TI M ties) (hv : v < M 0) (hk : k ≤ v) (hf : ∀ j, j < k → f j < v)
    (hs : ∀ u, u < M 0 → scs u = nI (scM M es u)) (ht : ∀ u, u < M 0 → ∀ i, i < 3 → tr (u * 3 + i) = tR M es u (M (10 + 8 * u + 7)) (M (1 + i)))
    (hK : ∀ ord, SF k f (posR (aM M es) v f k) ord → K (nI (posR (aM M es) v f k)) ord) :
    ∀ n x (ord : Nat → Int32), x ≤ k → x < n → SF k f x ord → posR (aM M es) v f k = posR (aM M es) v f x → p_X2_rankOne_23 N (nI v) (nI (scM M es v)) (nI (M (10 + 8 * v + 7))) c0 scs (nI (M 0)) qs ties tr K n (nI x) ord := by
  have h16 := hW.1
  intro n
  induction n with
  | zero => intro x ord h1 h2; omega
  | succ n ih =>
    intro x ord h1 h2 h3 h5
    unfold p_X2_rankOne_23
    simp (disch := omega) only [zl, nS]
    refine ⟨fun h => ?_, fun h => ?_⟩
    · have : x = 0 := by omega
      subst this
      rw [posR_0] at h5
      have := hK ord (by rw [h5]; exact h3)
      rw [h5] at this
      exact this
    · obtain ⟨y, rfl⟩ : ∃ y, x = y + 1 := ⟨x - 1, by omega⟩
      have hy := hf y (by omega)
      have b1 := scM_le (es := es) hW (show f y < M 0 by omega)
      have b2 := scM_le (es := es) hW hv
      simp (disch := omega) only [nS, dn1]
      rw [show y + 1 - 1 = y by omega, h3.1 y (by omega)]
      simp (disch := omega) only [nS]
      rw [hs _ (show f y < M 0 by omega)]
      refine ⟨by omega, by omega, by omega, s_isAhead1 (M := M) (es := es) hN hW hT (by omega) hv (by omega) (by omega) (ht _ (by omega)) (ht _ hv) (fun hA => ⟨fun _ => ?_, fun z => absurd z (by decide)⟩) (fun hA => ⟨fun z => absurd rfl z, fun _ => ⟨by omega, by omega, ?_⟩⟩)⟩
      · have e : posR (aM M es) v f k = y + 1 := by rw [h5]; exact posR_f (ahd_asym hA)
        have := hK ord (by rw [e]; exact h3)
        rw [e] at this
        exact this
      · refine ih y _ (by omega) (by omega) (SF_s h3 (by omega)) ?_
        rw [h5]
        refine posR_t ?_
        rcases (aM_TO M es).1 v (f y) (by omega) with t | t
        · exact t
        · exact absurd t hA
theorem s_rankOne {N v k es : Nat} {f : Nat → Nat} {M : Nat → Nat} {scs qs ties tr ord : Nat → Int32} {Q : Int32 → (Nat → Int32) → Prop} (hN : 1000 < N) (hW : WF M) (hT : TI M ties) (hQ : QL M qs) (hv : v < M 0) (hk : k ≤ v) (hf : ∀ j, j < k → f j < v)
    (hs : ∀ u, u < M 0 → scs u = nI (scM M es u)) (ht : ∀ u, u < M 0 → ∀ i, i < 3 → tr (u * 3 + i) = tR M es u (M (10 + 8 * u + 7)) (M (1 + i))) (ho : RO k f ord)
    (hq : ∀ ord, RO (k + 1) (insR v (posR (aM M es) v f k) f) ord → Q (nI (k + 1)) ord) : p_X2_rankOne N (nI k) scs (nI (M 0)) qs ord ties tr (nI v) Q := by
  have h16 := hW.1
  have p1 := (posR_p (aM M es) v f k).1
  unfold p_X2_rankOne
  simp (disch := omega) only [zl, nS]
  rw [hs v hv, hQ v hv]
  refine ⟨by omega, by omega, s_rankOne_23 hN hW hT hv hk hf hs ht (fun ord' h => ?_) N k ord (by omega) (by omega) (SF_0 ho) rfl⟩
  simp (disch := omega) only [nS]
  exact ⟨by omega, hq _ (RO_ins p1 h.1 h.2)⟩
theorem s_rankAll {N es : Nat} {M : Nat → Nat} {rc : Int32} {scs qs ties tr ord rks : Nat → Int32} {Q : Int32 → (Nat → Int32) → (Nat → Int32) → Prop} (hN : 1000 < N) (hW : WF M) (hT : TI M ties) (hQ : QL M qs)
    (hs : ∀ u, u < M 0 → scs u = nI (scM M es u)) (ht : ∀ u, u < M 0 → ∀ i, i < 3 → tr (u * 3 + i) = tR M es u (M (10 + 8 * u + 7)) (M (1 + i)))
    (hq : ∀ rks ord, RO (rkM M es 0).1 (rkM M es 0).2 ord → (∀ v, v < M 0 → rks v = nP (plI (rkM M es 0).2 v (rkM M es 0).1)) → Q (nI (rkM M es 0).1) rks ord) : p_X2_rankAll N rc (nI (M 0)) rks scs qs ord ties tr Q := by
  have h16 := hW.1
  obtain ⟨r1, r2⟩ := rkM_lt M es 0
  have second : ∀ ord, RO (rkM M es 0).1 (rkM M es 0).2 ord → ∀ n x (rks : Nat → Int32), x ≤ (rkM M es 0).1 → (rkM M es 0).1 - x < n → (∀ v, v < M 0 → rks v = nP (plI (rkM M es 0).2 v x)) → p_X2_rankAll_47 N (nI (rkM M es 0).1) (nI (M 0)) scs qs ord ties tr (fun _ rks => Q (nI (rkM M es 0).1) rks ord) n (nI x) rks := by
    intro ord ho n
    induction n with
    | zero => intro x rks h1 h2; omega
    | succ n ih =>
      intro x rks h1 h2 h3
      unfold p_X2_rankAll_47
      simp (disch := omega) only [zl, nS]
      refine ⟨fun h => ?_, fun h => ?_⟩
      · have : x = (rkM M es 0).1 := by omega
        subst this
        exact hq _ _ ho h3
      · have hx := r2 x (by omega)
        rw [ho x (by omega)]
        simp (disch := omega) only [nS]
        refine ⟨by omega, by omega, ih (x + 1) _ (by omega) (by omega) (fun v hv => ?_)⟩
        rw [upd_at]
        show _ = nP (if (rkM M es 0).2 x = v then x + 1 else plI (rkM M es 0).2 v x)
        by_cases q : v = (rkM M es 0).2 x
        · rw [if_pos q, if_pos q.symm, nP_s]
        · rw [if_neg q, if_neg (fun z => q z.symm)]; exact h3 v hv
  have first : ∀ n v (rks ord : Nat → Int32), v ≤ M 0 → M 0 - v < n → (∀ w, w < v → rks w = nM) → RO (rk (aM M es) (inM M es 0) v).1 (rk (aM M es) (inM M es 0) v).2 ord → p_X2_rankAll_7 N (nI (M 0)) scs qs ties tr (fun _ rc rks ord => p_X2_rankAll_47 N rc (nI (M 0)) scs qs ord ties tr (fun _ rks => Q rc rks ord) N (nI 0) rks) n (nI v) (nI (rk (aM M es) (inM M es 0) v).1) rks ord := by
    intro n
    induction n with
    | zero => intro v rks ord h1 h2; omega
    | succ n ih =>
      intro v rks ord h1 h2 h3 h4
      have l1 := rk_lt (aM M es) (inM M es 0) v
      unfold p_X2_rankAll_7
      simp (disch := omega) only [zl, nS]
      refine ⟨fun h => ?_, fun h => ?_⟩
      · have : v = M 0 := by omega
        subst this
        exact second ord h4 N 0 rks (by omega) (by omega) (fun w hw => by rw [h3 w hw]; rfl)
      · rw [hs v (by omega)]
        have b := scM_le (es := es) hW (show v < M 0 by omega)
        have h3' : ∀ w, w < v + 1 → upd rks v (-nI 1) w = nM := fun w hw => by
          rw [upd_at]
          by_cases q : w = v
          · rw [if_pos q]; rfl
          · rw [if_neg q]; exact h3 w (by omega)
        simp (disch := omega) only [nS]
        refine ⟨by omega, by omega, fun z => ?_, fun z => s_rankOne (M := M) (es := es) hN hW hT hQ (by omega) l1.1 l1.2 hs ht h4 (fun ord' ho => ?_)⟩
        · have e := rk_f (A := aM M es) (S := inM M es 0) (k := v) (fun q => by have := q.1; omega)
          have := ih (v + 1) (upd rks v (-nI 1)) ord (by omega) (by omega) h3' (by rw [e]; exact h4)
          rw [e] at this
          exact this
        · have e := rk_t (A := aM M es) (S := inM M es 0) (k := v) ⟨by omega, by omega⟩
          have := ih (v + 1) (upd rks v (-nI 1)) ord' (by omega) (by omega) h3' (by rw [e]; exact ho)
          rw [e] at this
          exact this
  unfold p_X2_rankAll
  simp only [zl]
  exact first N 0 rks ord (by omega) (by omega) (fun w hw => absurd hw (by omega)) (fun j hj => absurd hj (by show ¬ j < 0; omega))
/-- what the class works out, with es for the empty side -/
def DR (M : Nat → Nat) (es : Nat) (rc : Int32) (ps ws scs tr rks ord : Nat → Int32) : Prop := (∀ v, v < M 0 → PC M es v ps) ∧ (∀ v, v < M 0 → WC M es v ws) ∧ (∀ v, v < M 0 → scs v = nI (scM M es v)) ∧ (∀ v, v < M 0 → ∀ i, i < 3 → tr (v * 3 + i) = tR M es v (M (10 + 8 * v + 7)) (M (1 + i))) ∧ rc = nI (rkM M es 0).1 ∧ RO (rkM M es 0).1 (rkM M es 0).2 ord ∧ (∀ v, v < M 0 → rks v = nP (plI (rkM M es 0).2 v (rkM M es 0).1))
theorem s_workOut {N es : Nat} {M : Nat → Nat} {rc : Int32} {keys : Nat → Int64} {ranges : Nat → Int64} {sizes qs lengths names weights ties ps ws scs tr rks ord : Nat → Int32} {Q : Int32 → (Nat → Int32) → (Nat → Int32) → (Nat → Int32) → (Nat → Int32) → (Nat → Int32) → (Nat → Int32) → Prop} (hN : 1000 < N) (hW : WF M) (he : es ≤ 2)
    (hST : ST M (nI (M 0)) keys sizes qs lengths ranges names weights ties) (hq : ∀ rc ps ws scs tr rks ord, DR M es rc ps ws scs tr rks ord → Q rc ps ws scs tr rks ord) : p_X2_workOut N rc (nI (M 0)) lengths names keys ranges ps weights ws qs scs ties sizes tr rks ord (nP es) Q := by
  have h16 := hW.1
  obtain ⟨-, hK, hS, hQ, hL, hR, hA, hWt, hT⟩ := hST
  have slots : ∀ v, v < M 0 → ∀ scs tr (K : Int32 → (Nat → Int32) → (Nat → Int32) → Prop) n l (ps ws : Nat → Int32), l ≤ 6 → 6 - l < n → (∀ w, w < v → PC M es w ps) → (∀ w, w < v → WC M es w ws) → (∀ k, k < l → ps (v * 6 + k) = nP (if k / 3 + 1 = es then 0 else plW M k v)) → (∀ k, k < l → ws (v * 6 + k) = nI (wE M es k v)) →
      (∀ x ps ws, (∀ w, w < v + 1 → PC M es w ps) → (∀ w, w < v + 1 → WC M es w ws) → K x ps ws) → p_X2_workOut_15 N (nP es) (nI v) rc (nI (M 0)) lengths names keys ranges weights qs scs ties sizes tr rks ord K n (nI l) ps ws := by
    intro v hv scs tr K n
    induction n with
    | zero => intro l ps ws h1 h2; omega
    | succ n ih =>
      intro l ps ws h1 h2 h3 h4 h5 h6 hk
      unfold p_X2_workOut_15
      simp (disch := omega) only [zl, nS]
      refine ⟨fun h => ?_, fun h => ?_⟩
      · have : l = 6 := by omega
        subst this
        refine hk _ _ _ (fun w hw => ?_) (fun w hw => ?_)
        · by_cases q : w = v
          · rw [q]; exact h5
          · exact h3 w (by omega)
        · by_cases q : w = v
          · rw [q]; exact h6
          · exact h4 w (by omega)
      · rw [es_eq (by omega) he]
        have stp : ∀ (p w0 : Int32), p = nP (if l / 3 + 1 = es then 0 else plW M l v) → w0 = nI (wE M es l v) → p_X2_workOut_15 N (nP es) (nI v) rc (nI (M 0)) lengths names keys ranges weights qs scs ties sizes tr rks ord K n (nI (l + 1)) (upd ps (v * 6 + l) p) (upd ws (v * 6 + l) w0) := by
          intro p w0 e1 e2
          refine ih (l + 1) _ _ (by omega) (by omega) (fun w hw k hk2 => ?_) (fun w hw k hk2 => ?_) (fun k hk2 => ?_) (fun k hk2 => ?_) hk
          · rw [upd_at, if_neg (by omega)]; exact h3 w hw k hk2
          · rw [upd_at, if_neg (by omega)]; exact h4 w hw k hk2
          · rw [upd_at]
            by_cases q : k = l
            · rw [q, if_pos rfl]; exact e1
            · rw [if_neg (by omega)]; exact h5 k (by omega)
          · rw [upd_at]
            by_cases q : k = l
            · rw [q, if_pos rfl]; exact e2
            · rw [if_neg (by omega)]; exact h6 k (by omega)
        refine ⟨fun q => s_placeThatCounts hN hW hL hK hR hA (by omega) hv (s_cellOf ?_), fun q => s_cellOf ?_⟩
        · simp (disch := omega) only [nS]
          refine ⟨by omega, s_cellOf (s_weightAt hW hL hK hWt (by omega) hv (plW_le M l v) ?_)⟩
          simp (disch := omega) only [nS]
          refine ⟨by omega, stp _ _ (by rw [if_neg q]) ?_⟩
          unfold wE wP
          rw [if_neg q]
        · simp (disch := omega) only [nS]
          refine ⟨by omega, s_cellOf ?_⟩
          simp (disch := omega) only [nS]
          refine ⟨by omega, stp _ _ (by rw [if_pos q]; rfl) ?_⟩
          unfold wE
          rw [if_pos q]
  have tieL : ∀ v, v < M 0 → ∀ ps ws scs (K : Int32 → (Nat → Int32) → Prop), PC M es v ps → ∀ n i (tr : Nat → Int32), i ≤ 3 → 3 - i < n → (∀ w, w < v → ∀ i, i < 3 → tr (w * 3 + i) = tR M es w (M (10 + 8 * w + 7)) (M (1 + i))) → (∀ k, k < i → tr (v * 3 + k) = tR M es v (M (10 + 8 * v + 7)) (M (1 + k))) →
      (∀ x tr, (∀ w, w < v + 1 → ∀ i, i < 3 → tr (w * 3 + i) = tR M es w (M (10 + 8 * w + 7)) (M (1 + i))) → K x tr) → p_X2_workOut_127 N (nP es) (nI v) rc (nI (M 0)) lengths names keys ranges ps weights ws qs scs ties sizes rks ord K n (nI i) tr := by
    intro v hv ps ws scs K hP n
    induction n with
    | zero => intro i tr h1 h2; omega
    | succ n ih =>
      intro i tr h1 h2 h3 h4 hk
      unfold p_X2_workOut_127
      simp (disch := omega) only [zl, nS]
      refine ⟨fun h => hk _ _ (fun w hw i2 hi2 => ?_), fun h => ?_⟩
      · by_cases q : w = v
        · rw [q]; exact h4 i2 (by omega)
        · exact h3 w (by omega) i2 hi2
      · have hr := hW.2.2.1 i (by omega)
        rw [hT i (by omega)]
        refine ⟨by omega, s_tieRank hW hS hP hQ hv hr ⟨by omega, ih (i + 1) _ (by omega) (by omega) (fun w hw i2 hi2 => ?_) (fun k hk2 => ?_) hk⟩⟩
        · rw [upd_at, if_neg (by omega)]; exact h3 w hw i2 hi2
        · rw [upd_at]
          by_cases q : k = i
          · rw [q, if_pos rfl]
          · rw [if_neg (by omega)]; exact h4 k (by omega)
  have vars : ∀ n v (ps ws scs tr : Nat → Int32), v ≤ M 0 → M 0 - v < n → (∀ w, w < v → PC M es w ps) → (∀ w, w < v → WC M es w ws) → (∀ w, w < v → scs w = nI (scM M es w)) → (∀ w, w < v → ∀ i, i < 3 → tr (w * 3 + i) = tR M es w (M (10 + 8 * w + 7)) (M (1 + i))) →
      p_X2_workOut_2 N (nP es) rc (nI (M 0)) lengths names keys ranges weights qs ties sizes rks ord (fun _ ps ws scs tr => p_X2_rankAll N rc (nI (M 0)) rks scs qs ord ties tr (fun rc rks ord => Q rc ps ws scs tr rks ord)) n (nI v) ps ws scs tr := by
    intro n
    induction n with
    | zero => intro v ps ws scs tr h1 h2; omega
    | succ n ih =>
      intro v ps ws scs tr h1 h2 h3 h4 h5 h6
      unfold p_X2_workOut_2
      simp (disch := omega) only [zl, nS]
      refine ⟨fun h => ?_, fun h => ?_⟩
      · have : v = M 0 := by omega
        subst this
        exact s_rankAll hN hW hT hQ h5 h6 (fun rks ord ho hr => hq _ _ _ _ _ _ _ ⟨h3, h4, h5, h6, rfl, ho, hr⟩)
      · have hv : v < M 0 := by omega
        have q7 := (hW.2.2.2.1 v hv).2.2.2.2
        refine slots v hv scs tr _ N 0 ps ws (by omega) (by omega) h3 h4 (fun k hk => absurd hk (by omega)) (fun k hk => absurd hk (by omega)) (fun x ps ws g3 g4 => ⟨by omega, ?_⟩)
        rw [hQ v hv]
        refine s_scoreOfQuality hN hW (g4 v (by omega)) hv q7 ⟨by omega, tieL v hv ps ws _ _ (g3 v (by omega)) N 0 tr (by omega) (by omega) h6 (fun k hk => absurd hk (by omega)) (fun x tr g6 => ih (v + 1) ps ws _ tr (by omega) (by omega) g3 g4 (fun w hw => ?_) g6)⟩
        rw [upd_at]
        by_cases q : w = v
        · rw [q, if_pos rfl]; rfl
        · rw [if_neg (by omega)]; exact h5 w (by omega)
  unfold p_X2_workOut
  simp only [zl]
  exact vars N 0 ps ws scs tr (by omega) (by omega) (fun w hw => absurd hw (by omega)) (fun w hw => absurd hw (by omega)) (fun w hw => absurd hw (by omega)) (fun w hw => absurd hw (by omega))
/-! the reference -/
theorem nb0 : vp_nar .boolean (nI 0) = nI 0 := by decide
theorem nb1 : vp_nar .boolean (nI 1) = nI 1 := by decide
noncomputable def fiM (M : Nat → Nat) (es wo : Nat) : Nat := fi (aM M es) (inM M es wo) (M 0)

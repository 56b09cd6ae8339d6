/-! keys are names: equal keys, equal cells -/
theorem k5e0 (x y : Nat) : k5 0 x y 0 = c5 x * 1048576 + c5 y := by
  have : k5 0 x y 0 = c5 x * 1048576 + c5 y * 1 + c5 0 * 1 := rfl
  rw [this, c5_0]; omega
theorem k5e1 (x y z : Nat) : k5 1 x y z = c5 x * 1099511627776 + c5 y * 1048576 + c5 z := by
  have : k5 1 x y z = c5 x * 1099511627776 + c5 y * 1048576 + c5 z * 1 := rfl
  rw [this]; omega
theorem k5e2 (x : Nat) : k5 2 x 0 0 = c5 x := by
  have : k5 2 x 0 0 = c5 x * 1 + c5 0 * 1 + c5 0 * 1 := rfl
  rw [this, c5_0]; omega
theorem k5i0 {x y u v : Nat} (hx : okN x) (hy : okN y) (hu : okN u) (hv : okN v) : (k5 0 x y 0 = k5 0 u v 0) = (x = u ∧ y = v) := by
  rw [k5e0, k5e0]
  have b1 := c5_lt hx; have b2 := c5_lt hy; have b3 := c5_lt hu; have b4 := c5_lt hv
  refine propext ⟨fun h => ⟨(c5_inj hx hu).mp (by omega), (c5_inj hy hv).mp (by omega)⟩, fun ⟨h1, h2⟩ => by rw [h1, h2]⟩
theorem k5i1 {x y z u v w : Nat} (hx : okN x) (hy : okN y) (hz : okN z) (hu : okN u) (hv : okN v) (hw : okN w) : (k5 1 x y z = k5 1 u v w) = (x = u ∧ y = v ∧ z = w) := by
  rw [k5e1, k5e1]
  have b1 := c5_lt hx; have b2 := c5_lt hy; have b3 := c5_lt hu; have b4 := c5_lt hv; have b5 := c5_lt hz; have b6 := c5_lt hw
  refine propext ⟨fun h => ⟨(c5_inj hx hu).mp (by omega), (c5_inj hy hv).mp (by omega), (c5_inj hz hw).mp (by omega)⟩, fun ⟨h1, h2, h3⟩ => by rw [h1, h2, h3]⟩
theorem k5i2 {x u : Nat} (hx : okN x) (hu : okN u) : (k5 2 x 0 0 = k5 2 u 0 0) = (x = u) := by
  rw [k5e2, k5e2]
  exact propext (c5_inj hx hu)
theorem k5b0 {x y : Nat} (hx : okN x) (hy : okN y) : k5 0 x y 0 < 1152921504606846976 := by
  rw [k5e0]; have b1 := c5_lt hx; have b2 := c5_lt hy; omega
theorem k5b1 {x y z : Nat} (hx : okN x) (hy : okN y) (hz : okN z) : k5 1 x y z < 1152921504606846976 := by
  rw [k5e1]; have b1 := c5_lt hx; have b2 := c5_lt hy; have b3 := c5_lt hz; omega
theorem k5b2 {x : Nat} (hx : okN x) : k5 2 x 0 0 < 1152921504606846976 := by
  rw [k5e2]; have b1 := c5_lt hx; omega
/-- variant v has the cells V -/
def tw (M V : Nat → Nat) (v : Nat) : Prop := ∀ i, i < 6 → M (10 + 8 * v + i) = V i
def okW (V : Nat → Nat) : Prop := okV 0 (V 0) (V 1) 0 ∧ okV 1 (V 2) (V 3) (V 4) ∧ okV 2 (V 5) 0 0
def k3 (V : Nat → Nat) (k2 : Nat → Int64) : Prop := k2 0 = lN (k5 0 (V 0) (V 1) 0) ∧ k2 1 = lN (k5 1 (V 2) (V 3) (V 4)) ∧ k2 2 = lN (k5 2 (V 5) 0 0)
theorem s_hasTwin {N : Nat} {M V : Nat → Nat} {c1 c2 c4 c5' c6 : Int32} {c3 : Int64} {keys k2 : Nat → Int64} {Q : Int32 → Prop} (hN : 1000 < N) (hW : WF M) (hK : KV M keys) (hV : okW V) (hk : k3 V k2) (h1 : ∀ v, v < M 0 → tw M V v → Q (nI 1)) (h0 : (∀ v, v < M 0 → ¬ tw M V v) → Q (nI 0)) : p_X3_hasTwin N (nI (M 0)) keys c1 c2 c3 c4 c5' c6 k2 Q := by
  have h16 := hW.1
  obtain ⟨w1, w2, w3⟩ := hV
  obtain ⟨q1, q2, q3⟩ := hk
  unfold p_X3_hasTwin
  simp only [zl]
  have main : ∀ n v, v ≤ M 0 → M 0 - v < n → (∀ w, w < v → ¬ tw M V w) → p_X3_hasTwin_2 N (nI (M 0)) keys c1 c2 c3 c4 c5' c6 k2 (fun _ => Q (nI 1)) (fun _ => Q (nI 0)) n (nI v) := by
    intro n
    induction n with
    | zero => intro v a b; omega
    | succ n ih =>
      intro v hv hn hw
      unfold p_X3_hasTwin_2
      simp (disch := omega) only [zl, zL, nS]
      refine ⟨fun h => h0 (fun w hw2 => hw w (by omega)), fun h => ?_⟩
      have hv : v < M 0 := by omega
      obtain ⟨o1, o2, o3, o4, o5⟩ := hW.2.2.2.1 v hv
      obtain ⟨e1, e2, e3⟩ := hK v hv
      have nx : ¬ tw M V v → p_X3_hasTwin_2 N (nI (M 0)) keys c1 c2 c3 c4 c5' c6 k2 (fun _ => Q (nI 1)) (fun _ => Q (nI 0)) n (nI (v + 1)) := fun z => ih (v + 1) (by omega) (by omega) (fun w hw2 => by
        by_cases q : w = v
        · rw [q]; exact z
        · exact hw w (by omega))
      refine s_keyOf (i := 0) (by omega) (by decide) ?_
      rw [Nat.add_zero, e1, q1, cmp0 (by have := k5b0 o1.1.1 o1.1.2.1; omega) (by have := k5b0 w1.1.1 w1.1.2.1; omega), k5i0 o1.1.1 o1.1.2.1 w1.1.1 w1.1.2.1]
      refine ⟨fun z => nx (fun t => z ⟨t 0 (by decide), t 1 (by decide)⟩), fun z0 => s_keyOf (i := 1) (by omega) (by decide) ?_⟩
      rw [e2, q2, cmp0 (by have := k5b1 o2.1.1 o2.1.2.1 o2.1.2.2.1; omega) (by have := k5b1 w2.1.1 w2.1.2.1 w2.1.2.2.1; omega), k5i1 o2.1.1 o2.1.2.1 o2.1.2.2.1 w2.1.1 w2.1.2.1 w2.1.2.2.1]
      refine ⟨fun z => nx (fun t => z ⟨t 2 (by decide), t 3 (by decide), t 4 (by decide)⟩), fun z1 => s_keyOf (i := 2) (by omega) (by decide) ?_⟩
      rw [e3, q3, cmp0 (by have := k5b2 o3.1.1; omega) (by have := k5b2 w3.1.1; omega), k5i2 o3.1.1 w3.1.1]
      refine ⟨fun z => nx (fun t => z (t 5 (by decide))), fun z2 => h1 v hv (fun i hi => ?_)⟩
      rcases (show i = 0 ∨ i = 1 ∨ i = 2 ∨ i = 3 ∨ i = 4 ∨ i = 5 by omega) with rfl | rfl | rfl | rfl | rfl | rfl
      · exact z0.1
      · exact z0.2
      · exact z1.1
      · exact z1.2.1
      · exact z1.2.2
      · exact z2
  exact main N 0 (by omega) (by omega) (fun w hw => absurd hw (by omega))
theorem WF_lt {M : Nat → Nat} (hW : WF M) {v : Nat} (hv : v < M 0) : ∀ i, i < 8 → M (10 + 8 * v + i) < 2147483648 := by
  obtain ⟨⟨⟨a1, a2, a3, _⟩, _⟩, ⟨⟨b1, b2, b3, _⟩, _⟩, ⟨⟨d1, _⟩, _⟩, o4, o5⟩ := hW.2.2.2.1 v hv
  intro i hi
  have l1 := okN_lt a1; have l2 := okN_lt a2; have l3 := okN_lt b1; have l4 := okN_lt b2; have l5 := okN_lt b3; have l6 := okN_lt d1
  rcases (show i = 0 ∨ i = 1 ∨ i = 2 ∨ i = 3 ∨ i = 4 ∨ i = 5 ∨ i = 6 ∨ i = 7 by omega) with rfl | rfl | rfl | rfl | rfl | rfl | rfl | rfl <;> (try rw [Nat.add_zero]) <;> omega
theorem okW_lt {V : Nat → Nat} (hV : okW V) : ∀ i, i < 6 → V i < 2147483648 := by
  obtain ⟨⟨⟨a1, a2, a3, _⟩, _⟩, ⟨⟨b1, b2, b3, _⟩, _⟩, ⟨⟨d1, _⟩, _⟩⟩ := hV
  intro i hi
  have l1 := okN_lt a1; have l2 := okN_lt a2; have l3 := okN_lt b1; have l4 := okN_lt b2; have l5 := okN_lt b3; have l6 := okN_lt d1
  rcases (show i = 0 ∨ i = 1 ∨ i = 2 ∨ i = 3 ∨ i = 4 ∨ i = 5 by omega) with rfl | rfl | rfl | rfl | rfl | rfl <;> omega
/-! a variant that was read -/
theorem VC_ok {b : Nat → Nat} {tn : Nat} (h : (G0 b tn).1 = 1 ∧ (G1 b tn).1 = 1 ∧ (G2 b tn).1 = 1) : okW (VC b tn) := by
  obtain ⟨a1, a2, a3⟩ := vr_out (b := b) (tn := tn) (l := 0) (by decide) (sk b tn 0)
  obtain ⟨a4, a5, a6⟩ := vr_out (b := b) (tn := tn) (l := 1) (by decide) (sk b tn (G0 b tn).2.1)
  obtain ⟨a7, a8, a9⟩ := vr_out (b := b) (tn := tn) (l := 2) (by decide) (sk b tn (G1 b tn).2.1)
  have r0 := (a3 h.1).2.2
  have r1 := (a6 h.2.1).2.2
  have r2 := (a9 h.2.2).2.2
  refine ⟨?_, r1, ?_⟩
  · show okV 0 (G0 b tn).2.2.1 (G0 b tn).2.2.2.1 0
    have e := r0.1.2.2.2.2.2.1 rfl
    have r0' : okV 0 (G0 b tn).2.2.1 (G0 b tn).2.2.2.1 (G0 b tn).2.2.2.2 := r0
    rw [show (G0 b tn).2.2.2.2 = 0 from e] at r0'
    exact r0'
  · show okV 2 (G2 b tn).2.2.1 0 0
    have e := r2.1.2.2.2.2.2.2 rfl
    have e2 := r2.1.2.2.2.2.1 e
    have r2' : okV 2 (G2 b tn).2.2.1 (G2 b tn).2.2.2.1 (G2 b tn).2.2.2.2 := r2
    rw [show (G2 b tn).2.2.2.1 = 0 from e, show (G2 b tn).2.2.2.2 = 0 from e2] at r2'
    exact r2'
theorem KY_k3 {b : Nat → Nat} {tn : Nat} {keys : Nat → Int64} (h : (G0 b tn).1 = 1 ∧ (G1 b tn).1 = 1 ∧ (G2 b tn).1 = 1) (hk : KY b tn keys) : k3 (VC b tn) keys := by
  obtain ⟨a1, a2, a3⟩ := vr_out (b := b) (tn := tn) (l := 0) (by decide) (sk b tn 0)
  obtain ⟨a7, a8, a9⟩ := vr_out (b := b) (tn := tn) (l := 2) (by decide) (sk b tn (G1 b tn).2.1)
  have r0 := (a3 h.1).2.2
  have r2 := (a9 h.2.2).2.2
  refine ⟨?_, hk.2.1, ?_⟩
  · show keys 0 = lN (k5 0 (G0 b tn).2.2.1 (G0 b tn).2.2.2.1 0)
    rw [hk.1, show (G0 b tn).2.2.2.2 = 0 from r0.1.2.2.2.2.2.1 rfl]
  · show keys 2 = lN (k5 2 (G2 b tn).2.2.1 0 0)
    have e : (G2 b tn).2.2.2.1 = 0 := r2.1.2.2.2.2.2.2 rfl
    have e2 : (G2 b tn).2.2.2.2 = 0 := r2.1.2.2.2.2.1 e
    rw [hk.2.2, e, e2]
/-! exchanging the sides -/
theorem EX_app {α : Type} {f0 f g : Nat → α} {o p e e2 : Nat} (h : EX f0 o p e f) (h2 : EX f (o + e) (p + e) e2 g) (hop : o + e + e2 ≤ p) : EX f0 o p (e + e2) g := by
  intro j
  rw [h2 j]
  by_cases q1 : o + e ≤ j ∧ j < o + e + e2
  · rw [if_pos q1, h, if_neg (by omega), if_neg (by omega), if_pos (by omega), show j - (o + e) + (p + e) = j - o + p by omega]
  · rw [if_neg q1]
    by_cases q2 : p + e ≤ j ∧ j < p + e + e2
    · rw [if_pos q2, h, if_neg (by omega), if_neg (by omega), if_neg (by omega), if_pos (by omega), show j - (p + e) + (o + e) = j - p + o by omega]
    · rw [if_neg q2, h]
      by_cases q3 : o ≤ j ∧ j < o + e
      · rw [if_pos q3, if_pos (by omega)]
      · rw [if_neg q3, if_neg (show ¬ (o ≤ j ∧ j < o + (e + e2)) by omega)]
        by_cases q4 : p ≤ j ∧ j < p + e
        · rw [if_pos q4, if_pos (by omega)]
        · rw [if_neg q4, if_neg (by omega)]
theorem s_exchangeLists {N a : Nat} {c0 : Int32} {l0 lg : Nat → Int32} {r0 r : Nat → Int64} {n0 w0 ng wg : Nat → Int32} {Q : (Nat → Int32) → (Nat → Int64) → (Nat → Int32) → (Nat → Int32) → Prop} (hN : 1000 < N) (ha : a < 3) (hl : EX l0 0 3 a lg) (hr : EX r0 0 30 (a * 10) r) (hn : EX n0 0 30 (a * 10) ng) (hw : EX w0 0 30 (a * 10) wg)
    (hq : ∀ lg' r' ng' wg', EX l0 0 3 (a + 1) lg' → EX r0 0 30 ((a + 1) * 10) r' → EX n0 0 30 ((a + 1) * 10) ng' → EX w0 0 30 ((a + 1) * 10) wg' → Q lg' r' ng' wg') : p_X3_exchangeLists N c0 lg r ng wg (nI a) (nI (3 + a)) Q := by
  unfold p_X3_exchangeLists
  simp (disch := omega) only [zl, nS]
  refine ⟨by omega, by omega, by omega, by omega, ?_⟩
  refine s_exchangeLists_29 (r0 := r) (n0 := ng) (w0 := wg) (by omega) (by omega) (fun y r' ng' wg' h1 h2 h3 => ?_) N 0 _ _ _ (by omega) (by omega) (EX_0 _ _ _) (EX_0 _ _ _) (EX_0 _ _ _)
  have ee : (a + 1) * 10 = a * 10 + 10 := by omega
  rw [ee] at hq
  have e1 : 0 + a * 10 = a * 10 := Nat.zero_add _
  have e2 : 30 + a * 10 = (3 + a) * 10 := by omega
  refine hq _ r' ng' wg' (EX_s hl (by omega) (fun j => ?_)) (EX_app hr (by rw [e1, e2]; exact h1) (by omega)) (EX_app hn (by rw [e1, e2]; exact h2) (by omega)) (EX_app hw (by rw [e1, e2]; exact h3) (by omega))
  rw [upd_at, upd_at, Nat.zero_add]
theorem swpS_RM {M : Nat → Nat} {m m1 m2 : Nat → Int32} (h : RM M m) (h1 : EX m 4 7 3 m1) (h2 : EX m1 138 258 120 m2) : RM (swpS M) m2 := by
  intro j hj
  unfold swpS
  rw [h2 j]
  by_cases q1 : 138 ≤ j ∧ j < 138 + 120
  · rw [if_pos q1, h1, if_neg (by omega), if_neg (by omega), if_neg (by omega), if_neg (by omega), if_pos (by omega), show j - 138 + 258 = j + 120 by omega]
    exact h _ (by omega)
  · rw [if_neg q1]
    by_cases q2 : 258 ≤ j ∧ j < 258 + 120
    · rw [if_pos q2, h1, if_neg (by omega), if_neg (by omega), if_neg (by omega), if_neg (by omega), if_neg (by omega), if_pos (by omega), show j - 258 + 138 = j - 120 by omega]
      exact h _ (by omega)
    · rw [if_neg q2, h1]
      by_cases q3 : 4 ≤ j ∧ j < 4 + 3
      · rw [if_pos q3, if_pos (by omega), show j - 4 + 7 = j + 3 by omega]
        exact h _ (by omega)
      · rw [if_neg q3, if_neg (show ¬ (4 ≤ j ∧ j < 7) by omega)]
        by_cases q4 : 7 ≤ j ∧ j < 7 + 3
        · rw [if_pos q4, if_pos (by omega), show j - 7 + 4 = j - 3 by omega]
          exact h _ (by omega)
        · rw [if_neg q4, if_neg (by omega), if_neg (by omega), if_neg (by omega)]
          exact h j hj
/-- the other side's list -/
def ot (l : Nat) : Nat := if l < 3 then l + 3 else l - 3
theorem ot_lt {l : Nat} (h : l < 6) : ot l < 6 ∧ ot l % 3 = l % 3 := by unfold ot; split <;> omega
theorem swpS_l {M : Nat → Nat} {l : Nat} (h : l < 6) : swpS M (4 + l) = M (4 + ot l) := by
  unfold swpS ot
  by_cases q : l < 3
  · rw [if_pos q, if_pos (by omega), show 4 + l + 3 = 4 + (l + 3) by omega]
  · rw [if_neg q, if_neg (by omega), if_pos (by omega), show 4 + l - 3 = 4 + (l - 3) by omega]
theorem swpS_e {M : Nat → Nat} {l e i : Nat} (h : l < 6) (he : e < 10) (hi : i < 4) : swpS M (ec l e + i) = M (ec (ot l) e + i) := by
  unfold swpS ot ec
  by_cases q : l < 3
  · rw [if_pos q, if_neg (by omega), if_neg (by omega), if_pos (by omega), show 138 + 40 * l + 4 * e + i + 120 = 138 + 40 * (l + 3) + 4 * e + i by omega]
  · rw [if_neg q, if_neg (by omega), if_neg (by omega), if_neg (by omega), if_pos (by omega), show 138 + 40 * l + 4 * e + i - 120 = 138 + 40 * (l - 3) + 4 * e + i by omega]
theorem swpS_o {M : Nat → Nat} {j : Nat} (h : j < 4 ∨ (10 ≤ j ∧ j < 138)) : swpS M j = M j := by
  unfold swpS
  rw [if_neg (by omega), if_neg (by omega), if_neg (by omega), if_neg (by omega)]
theorem swpS_WF {M : Nat → Nat} (h : WF M) : WF (swpS M) := by
  obtain ⟨h0, h1, h2, h3, h4⟩ := h
  refine ⟨?_, fun k hk => ?_, fun i hi => ?_, fun v hv => ?_, fun k hk e he => ?_⟩
  · rw [swpS_o (by omega)]; exact h0
  · rw [swpS_l hk]; exact h1 _ (ot_lt hk).1
  · rw [swpS_o (by omega)]; exact h2 i hi
  · rw [swpS_o (by omega)] at hv
    have := h3 v hv
    unfold okv at this ⊢
    simp (disch := omega) only [swpS_o]
    exact this
  · rw [swpS_l hk] at he
    have h10 := h1 _ (ot_lt hk).1
    have := h4 _ (ot_lt hk).1 e he
    unfold oke at this ⊢
    have e0 : swpS M (ec k e) = M (ec (ot k) e) := swpS_e (i := 0) hk (by omega) (by decide)
    rw [e0, swpS_e hk (by omega) (by decide), swpS_e hk (by omega) (by decide), swpS_e hk (by omega) (by decide), ← (ot_lt hk).2]
    exact this
theorem EX_ot {α : Type} {f0 f : Nat → α} {l e : Nat} (h : EX f0 0 30 30 f) (hl : l < 6) (he : e < 10) : f (l * 10 + e) = f0 (ot l * 10 + e) := by
  rw [h]
  unfold ot
  by_cases q : l < 3
  · rw [if_pos (by omega), if_pos q, show l * 10 + e - 0 + 30 = (l + 3) * 10 + e by omega]
  · rw [if_neg (by omega), if_pos (by omega), if_neg q, show l * 10 + e - 30 + 0 = (l - 3) * 10 + e by omega]
theorem swpS_ST {M : Nat → Nat} {vn : Int32} {keys : Nat → Int64} {sizes qs lengths lg : Nat → Int32} {ranges r : Nat → Int64} {names weights m w ties : Nat → Int32} (hW : WF M) (h : ST M vn keys sizes qs lengths ranges names weights ties) (hl : EX lengths 0 3 3 lg) (hr : EX ranges 0 30 30 r) (hm : EX names 0 30 30 m) (hw : EX weights 0 30 30 w) : ST (swpS M) vn keys sizes qs lg r m w ties := by
  obtain ⟨a0, a1, a2, a3, a4, a5, a6, a7, a8⟩ := h
  have h16 := hW.1
  refine ⟨?_, fun v hv => ?_, fun v hv => ?_, fun v hv => ?_, fun k hk => ?_, fun k hk f hf => ?_, fun k hk f hf => ?_, fun k hk f hf => ?_, fun i hi => ?_⟩
  · rw [swpS_o (by omega)]; exact a0
  · rw [swpS_o (by omega)] at hv
    simp (disch := omega) only [swpS_o]
    exact a1 v hv
  · rw [swpS_o (by omega)] at hv
    simp (disch := omega) only [swpS_o]
    exact a2 v hv
  · rw [swpS_o (by omega)] at hv
    simp (disch := omega) only [swpS_o]
    exact a3 v hv
  · rw [swpS_l hk, hl k]
    unfold ot
    by_cases q : k < 3
    · rw [if_pos (by omega), if_pos q, show k - 0 + 3 = k + 3 by omega]
      exact a4 _ (by omega)
    · rw [if_neg (by omega), if_pos (by omega), if_neg q, show k - 3 + 0 = k - 3 by omega]
      exact a4 _ (by omega)
  · rw [swpS_l hk] at hf
    have h10 := hW.2.1 _ (ot_lt hk).1
    have e0 : swpS M (ec k f) = M (ec (ot k) f) := swpS_e (i := 0) hk (by omega) (by decide)
    rw [EX_ot hr hk (by omega), e0, swpS_e hk (by omega) (by decide), swpS_e hk (by omega) (by decide), ← (ot_lt hk).2]
    exact a5 _ (ot_lt hk).1 f hf
  · rw [swpS_l hk] at hf
    have h10 := hW.2.1 _ (ot_lt hk).1
    have e0 : swpS M (ec k f) = M (ec (ot k) f) := swpS_e (i := 0) hk (by omega) (by decide)
    rw [EX_ot hm hk (by omega), e0, swpS_e hk (by omega) (by decide), swpS_e hk (by omega) (by decide)]
    exact a6 _ (ot_lt hk).1 f hf
  · rw [swpS_l hk] at hf
    have h10 := hW.2.1 _ (ot_lt hk).1
    rw [EX_ot hw hk (by omega), swpS_e hk (by omega) (by decide)]
    exact a7 _ (ot_lt hk).1 f hf
  · rw [swpS_o (by omega)]; exact a8 i hi

/-! the order of the listing -/
def kM (M : Nat → Nat) (l v : Nat) : Nat := if l = 0 then k5 0 (M (10 + 8 * v)) (M (10 + 8 * v + 1)) 0 else if l = 1 then k5 1 (M (10 + 8 * v + 2)) (M (10 + 8 * v + 3)) (M (10 + 8 * v + 4)) else k5 2 (M (10 + 8 * v + 5)) 0 0
def bM (M : Nat → Nat) (u w : Nat) : Prop := kM M 0 u < kM M 0 w ∨ (kM M 0 u = kM M 0 w ∧ (kM M 1 u < kM M 1 w ∨ (kM M 1 u = kM M 1 w ∧ (kM M 2 u < kM M 2 w ∨ (kM M 2 u = kM M 2 w ∧ u < w)))))
theorem bM_TO (M : Nat → Nat) : TO (bM M) := ⟨fun u w h => by unfold bM; omega, fun u w h => by unfold bM at h ⊢; omega, fun u w x h h2 => by unfold bM at h h2 ⊢; omega⟩
theorem kM_keys {M : Nat → Nat} {keys : Nat → Int64} (h : KV M keys) {v l : Nat} (hv : v < M 0) (hl : l < 3) : keys (v * 3 + l) = lN (kM M l v) := by
  obtain ⟨a, b, c⟩ := h v hv
  rcases (show l = 0 ∨ l = 1 ∨ l = 2 by omega) with rfl | rfl | rfl
  · exact a
  · exact b
  · exact c
theorem okv_okR {M : Nat → Nat} (hW : WF M) {v : Nat} (hv : v < M 0) : okR 0 (M (10 + 8 * v)) (M (10 + 8 * v + 1)) 0 ∧ okR 1 (M (10 + 8 * v + 2)) (M (10 + 8 * v + 3)) (M (10 + 8 * v + 4)) ∧ okR 2 (M (10 + 8 * v + 5)) 0 0 := by
  obtain ⟨a, b, c, _⟩ := hW.2.2.2.1 v hv
  exact ⟨a.1, b.1, c.1⟩
theorem kM_b {M : Nat → Nat} (hW : WF M) {v l : Nat} (hv : v < M 0) (hl : l < 3) : kM M l v < 1152921504606846976 := by
  obtain ⟨a, b, c⟩ := okv_okR hW hv
  rcases (show l = 0 ∨ l = 1 ∨ l = 2 by omega) with rfl | rfl | rfl
  · exact k5_b (by decide) a
  · exact k5_b (by decide) b
  · exact k5_b (by decide) c
theorem lg_lt {a b : Nat} (ha : a < 9223372036854775808) (hb : b < 9223372036854775808) : (nI 0 ≤ lg_cmp (lN a) (lN b)) = (b ≤ a) := by
  unfold lg_cmp
  have h1 : (lN a > lN b) = (b < a) := by
    show (lN b < lN a) = _
    exact propext (pk_lLT hb ha)
  have h2 : (lN a = lN b) = (a = b) := propext (pk_lEQ ha hb)
  simp only [h1, h2]
  by_cases q : b < a
  · simp only [q, if_true]
    exact propext ⟨fun _ => by omega, fun _ => by decide⟩
  · simp only [q, if_false]
    by_cases r : a = b
    · simp only [r, if_true]
      exact propext ⟨fun _ => Nat.le_refl _, fun _ => by decide⟩
    · simp only [r, if_false]
      exact propext ⟨fun z => absurd z (by decide), fun z => by omega⟩
theorem s_isBefore0 {N u w : Nat} {M : Nat → Nat} {c0 : Int32} {keys : Nat → Int64} {Q : Int32 → Prop} (hN : 1000 < N) (hW : WF M) (hK : KV M keys) (hu : u < M 0) (hw : w < u) (h1 : bM M u w → Q (nI 1)) (h0 : ¬ bM M u w → Q (nI 0)) : p_X0_isBefore N c0 (nI (M 0)) keys (nI u) (nI w) Q := by
  have h16 := hW.1
  obtain ⟨N, rfl⟩ : ∃ m, N = m + 1 + 1 + 1 + 1 := ⟨N - 4, by omega⟩
  have stp : ∀ (l n : Nat) (K1 : Int32 → Int64 → Int64 → Prop) (K2 : Int32 → Prop), l < 3 → (kM M l u = kM M l w → p_X0_isBefore_2 (N + 1 + 1 + 1 + 1) (nI u) (nI w) c0 (nI (M 0)) keys K1 K2 n (nI (l + 1))) → (¬ kM M l u = kM M l w → K1 (nI l) (lN (kM M l u)) (lN (kM M l w))) → p_X0_isBefore_2 (N + 1 + 1 + 1 + 1) (nI u) (nI w) c0 (nI (M 0)) keys K1 K2 (n + 1) (nI l) := by
    intro l n K1 K2 hl a b
    have b1 := kM_b hW hu hl
    have b2 := kM_b hW (show w < M 0 by omega) hl
    unfold p_X0_isBefore_2
    simp (disch := omega) only [zl, nS]
    refine ⟨fun h => absurd h (by omega), fun _ => s_keyOf (by omega) hl (s_keyOf (by omega) hl ?_)⟩
    rw [kM_keys hK hu hl, kM_keys hK (show w < M 0 by omega) hl, cmp0 (by omega) (by omega)]
    exact ⟨a, b⟩
  have fin : ∀ (l : Nat), l < 3 → (kM M l u < kM M l w → bM M u w) → (kM M l w < kM M l u → ¬ bM M u w) → ¬ kM M l u = kM M l w → (nI 0 ≤ lg_cmp (lN (kM M l u)) (lN (kM M l w)) → Q (nI 0)) ∧ (¬ nI 0 ≤ lg_cmp (lN (kM M l u)) (lN (kM M l w)) → Q (nI 1)) := by
    intro l hl a b c
    have b1 := kM_b hW hu hl
    have b2 := kM_b hW (show w < M 0 by omega) hl
    rw [lg_lt (by omega) (by omega)]
    exact ⟨fun h => h0 (b (by omega)), fun h => h1 (a (by omega))⟩
  unfold p_X0_isBefore
  simp only [zl]
  refine stp 0 _ _ _ (by decide) (fun e0 => stp 1 _ _ _ (by decide) (fun e1 => stp 2 _ _ _ (by decide) (fun e2 => ?_) (fin 2 (by decide) (fun h => by unfold bM; omega) (fun h => by unfold bM; omega))) (fin 1 (by decide) (fun h => by unfold bM; omega) (fun h => by unfold bM; omega))) (fin 0 (by decide) (fun h => by unfold bM; omega) (fun h => by unfold bM; omega))
  unfold p_X0_isBefore_2
  refine ⟨fun _ => h0 (by unfold bM; omega), fun z => absurd (by decide) z⟩
theorem s_isBefore6 {N u w : Nat} {M : Nat → Nat} {c0 c1 c2 c3 c4 c5' c6 c7 : Int32} {c8 : Int64} {m : Nat → Int32} {Q : Int32 → Prop} (hN : 1000 < N) (hW : WF M) (hm : RM M m) (hu : u < M 0) (hw : w < u) (h1 : bM M u w → Q (nI 1)) (h0 : ¬ bM M u w → Q (nI 0)) : p_X6_isBefore N c0 c1 c2 c3 c4 c5' c6 c7 c8 m (nI u) (nI w) Q := by
  have h16 := hW.1
  obtain ⟨N, rfl⟩ : ∃ m, N = m + 1 + 1 + 1 + 1 + 1 + 1 := ⟨N - 6, by omega⟩
  obtain ⟨⟨x0, x1, -⟩, ⟨x2, x3, x4, -⟩, ⟨x5, -⟩⟩ := okv_okR hW hu
  obtain ⟨⟨y0, y1, -⟩, ⟨y2, y3, y4, -⟩, ⟨y5, -⟩⟩ := okv_okR hW (show w < M 0 by omega)
  have hB : bM M u w = (kM M 0 u < kM M 0 w ∨ (kM M 0 u = kM M 0 w ∧ (kM M 1 u < kM M 1 w ∨ (kM M 1 u = kM M 1 w ∧ (kM M 2 u < kM M 2 w ∨ (kM M 2 u = kM M 2 w ∧ u < w)))))) := rfl
  have ku0 : ∀ v, kM M 0 v = c5 (M (10 + 8 * v)) * 1048576 + c5 (M (10 + 8 * v + 1)) := fun v => k5e0 _ _
  have ku1 : ∀ v, kM M 1 v = c5 (M (10 + 8 * v + 2)) * 1099511627776 + c5 (M (10 + 8 * v + 3)) * 1048576 + c5 (M (10 + 8 * v + 4)) := fun v => k5e1 _ _ _
  have ku2 : ∀ v, kM M 2 v = c5 (M (10 + 8 * v + 5)) := fun v => k5e2 _
  rw [ku0, ku0, ku1, ku1, ku2, ku2] at hB
  have lt : ∀ {x}, okN x → x < 2147483648 := fun h => by have := okN_lt h; omega
  have q0 := c5_cmp x0 y0
  have q1 := c5_cmp x1 y1
  have q2 := c5_cmp x2 y2
  have q3 := c5_cmp x3 y3
  have q4 := c5_cmp x4 y4
  have q5 := c5_cmp x5 y5
  have bx1 := c5_lt x1
  have by1 := c5_lt y1
  have bx3 := c5_lt x3
  have by3 := c5_lt y3
  have bx4 := c5_lt x4
  have by4 := c5_lt y4
  have r0 := lt x0; have r1 := lt x1; have r2 := lt x2; have r3 := lt x3; have r4 := lt x4; have r5 := lt x5
  have t0 := lt y0; have t1 := lt y1; have t2 := lt y2; have t3 := lt y3; have t4 := lt y4; have t5 := lt y5
  have stp : ∀ (i n : Nat) (K : Int32 → Prop), i < 5 → M (10 + 8 * u + i) < 2147483648 → M (10 + 8 * w + i) < 2147483648 → (M (10 + 8 * u + i) = M (10 + 8 * w + i) → p_X6_isBefore_2 (N + 1 + 1 + 1 + 1 + 1 + 1) (nI u) (nI w) c0 c1 c2 c3 c4 c5' c6 c7 c8 m K n (nI (i + 1))) → (¬ M (10 + 8 * u + i) = M (10 + 8 * w + i) → K (nI i)) → p_X6_isBefore_2 (N + 1 + 1 + 1 + 1 + 1 + 1) (nI u) (nI w) c0 c1 c2 c3 c4 c5' c6 c7 c8 m K (n + 1) (nI i) := by
    intro i n K hi g1 g2 a b
    unfold p_X6_isBefore_2
    simp (disch := omega) only [zl, nS]
    refine ⟨fun h => absurd h (by omega), fun _ => s_of hm (by omega) (by omega) (s_of hm (by omega) (by omega) ?_)⟩
    simp (disch := omega) only [nS]
    exact ⟨b, a⟩
  have fin : ∀ (i : Nat), i < 6 → M (10 + 8 * u + i) < 2147483648 → M (10 + 8 * w + i) < 2147483648 → (M (10 + 8 * u + i) < M (10 + 8 * w + i) ↔ bM M u w) → p_X6_of (N + 1 + 1 + 1 + 1 + 1 + 1) c0 c1 c2 c3 c4 c5' c6 c7 c8 m (nI u) (nI i) (fun r_4 => p_X6_of (N + 1 + 1 + 1 + 1 + 1 + 1) c0 c1 c2 c3 c4 c5' c6 c7 c8 m (nI w) (nI i) (fun r_5 => (r_5 ≤ r_4 → Q (nI 0)) ∧ (¬ r_5 ≤ r_4 → Q (nI 1)))) := by
    intro i hi g1 g2 e
    refine s_of hm (by omega) (by omega) (s_of hm (by omega) (by omega) ?_)
    simp (disch := omega) only [nS]
    exact ⟨fun h => h0 (fun z => by have := e.mpr z; omega), fun h => h1 (e.mp (by omega))⟩
  revert hB
  revert by4
  revert bx4
  revert by3
  revert bx3
  revert by1
  revert bx1
  revert q5
  revert q4
  revert q3
  revert q2
  revert q1
  revert q0
  clear ku0 ku1 ku2
  have z0 : ∀ v, M (10 + 8 * v + 0) = M (10 + 8 * v) := fun _ => rfl
  generalize c5 (M (10 + 8 * u)) = a0
  generalize c5 (M (10 + 8 * u + 1)) = a1
  generalize c5 (M (10 + 8 * u + 2)) = a2
  generalize c5 (M (10 + 8 * u + 3)) = a3
  generalize c5 (M (10 + 8 * u + 4)) = a4
  generalize c5 (M (10 + 8 * u + 5)) = a5
  generalize c5 (M (10 + 8 * w)) = d0
  generalize c5 (M (10 + 8 * w + 1)) = d1
  generalize c5 (M (10 + 8 * w + 2)) = d2
  generalize c5 (M (10 + 8 * w + 3)) = d3
  generalize c5 (M (10 + 8 * w + 4)) = d4
  generalize c5 (M (10 + 8 * w + 5)) = d5
  intro q0 q1 q2 q3 q4 q5 bx1 by1 bx3 by3 bx4 by4 hB
  unfold p_X6_isBefore
  simp only [zl]
  refine stp 0 _ _ (by decide) r0 t0 (fun e0 => ?_) (fun e => fin 0 (by decide) r0 t0 ?_)
  · replace e0 := q0.2.mpr e0
    refine stp 1 _ _ (by decide) r1 t1 (fun e1 => ?_) (fun e => fin 1 (by decide) r1 t1 ?_)
    · replace e1 := q1.2.mpr e1
      refine stp 2 _ _ (by decide) r2 t2 (fun e2 => ?_) (fun e => fin 2 (by decide) r2 t2 ?_)
      · replace e2 := q2.2.mpr e2
        refine stp 3 _ _ (by decide) r3 t3 (fun e3 => ?_) (fun e => fin 3 (by decide) r3 t3 ?_)
        · replace e3 := q3.2.mpr e3
          refine stp 4 _ _ (by decide) r4 t4 (fun e4 => ?_) (fun e => fin 4 (by decide) r4 t4 ?_)
          · replace e4 := q4.2.mpr e4
            unfold p_X6_isBefore_2
            refine ⟨fun _ => fin 5 (by decide) r5 t5 ?_, fun z => absurd (by decide) z⟩
            rw [hB, ← q5.1]
            subst e0; subst e1; subst e2; subst e3; subst e4
            omega
          · have e' : ¬ a4 = d4 := fun z => e (q4.2.mp z)
            rw [hB, ← q4.1]
            subst e0; subst e1; subst e2; subst e3
            clear q0 q1 q2 q3 q4 q5
            omega
        · have e' : ¬ a3 = d3 := fun z => e (q3.2.mp z)
          rw [hB, ← q3.1]
          subst e0; subst e1; subst e2
          clear q0 q1 q2 q3 q4 q5
          omega
      · have e' : ¬ a2 = d2 := fun z => e (q2.2.mp z)
        rw [hB, ← q2.1]
        subst e0; subst e1
        clear q0 q1 q2 q3 q4 q5
        omega
    · have e' : ¬ a1 = d1 := fun z => e (q1.2.mp z)
      rw [hB, ← q1.1]
      subst e0
      clear q0 q1 q2 q3 q4 q5
      omega
  · have e' : ¬ a0 = d0 := fun z => e (q0.2.mp z)
    rw [hB, z0, z0, ← q0.1]
    clear q0 q1 q2 q3 q4 q5
    omega
def trP (_ : Nat) : Prop := True
/-- the variants in the order of the listing -/
noncomputable def roM (M : Nat → Nat) : Nat → Nat := (rk (bM M) trP (M 0)).2
theorem rk_all (A : Nat → Nat → Prop) : ∀ k, (rk A trP k).1 = k
  | 0 => rfl
  | k + 1 => by
    rw [rk_t (show trP k from trivial)]
    show (rk A trP k).1 + 1 = _
    rw [rk_all A k]
theorem rk_all_s (A : Nat → Nat → Prop) (k : Nat) : (rk A trP (k + 1)).2 = insR k (posR A k (rk A trP k).2 k) (rk A trP k).2 := by
  rw [rk_t (show trP k from trivial)]
  show insR k (posR A k (rk A trP k).2 (rk A trP k).1) (rk A trP k).2 = _
  rw [rk_all]
theorem rk_all_lt (A : Nat → Nat → Prop) {k i : Nat} (h : i < k) : (rk A trP k).2 i < k := (rk_lt A trP k).2 i (by rw [rk_all]; exact h)
theorem s_insert_2 {N v : Nat} {f : Nat → Nat} {M : Nat → Nat} {c0 : Int32} {keys : Nat → Int64} {K : Int32 → (Nat → Int32) → Prop} (hN : 1000 < N) (hW : WF M) (hKV : KV M keys) (hv : v < M 0) (hf : ∀ j, j < v → f j < v)
    (hK : ∀ ord, SF v f (posR (bM M) v f v) ord → K (nI (posR (bM M) v f v)) ord) :
    ∀ n x (ord : Nat → Int32), x ≤ v → x < n → SF v f x ord → posR (bM M) v f v = posR (bM M) v f x → p_X0_insert_2 N (nI v) c0 (nI (M 0)) keys K n (nI x) ord := by
  have h16 := hW.1
  intro n
  induction n with
  | zero => intro x ord h1 h2; omega
  | succ n ih =>
    intro x ord h1 h2 h3 h5
    unfold p_X0_insert_2
    simp (disch := omega) only [zl, nS]
    refine ⟨fun h => ?_, fun h => ?_⟩
    · have : x = 0 := by omega
      subst this
      rw [posR_0] at h5
      have := hK ord (by rw [h5]; exact h3)
      rw [h5] at this
      exact this
    · obtain ⟨y, rfl⟩ : ∃ y, x = y + 1 := ⟨x - 1, by omega⟩
      have hy := hf y (by omega)
      simp (disch := omega) only [nS, dn1]
      rw [show y + 1 - 1 = y by omega, h3.1 y (by omega)]
      refine ⟨by omega, s_isBefore0 hN hW hKV hv hy (fun hA => ⟨fun z => absurd z (by decide), fun _ => ⟨by omega, by omega, ?_⟩⟩) (fun hA => ⟨fun _ => ?_, fun z => absurd rfl z⟩)⟩
      · exact ih y _ (by omega) (by omega) (SF_s h3 (by omega)) (by rw [h5]; exact posR_t hA)
      · have e : posR (bM M) v f v = y + 1 := by rw [h5]; exact posR_f hA
        have := hK ord (by rw [e]; exact h3)
        rw [e] at this
        exact this
theorem s_list_14 {N v : Nat} {f : Nat → Nat} {M : Nat → Nat} {c0 c1 c2 c3 c4 c5 c6 c7 : Int32} {c8 : Int64} {m : Nat → Int32} {K : Int32 → (Nat → Int32) → Prop} (hN : 1000 < N) (hW : WF M) (hm : RM M m) (hv : v < M 0) (hf : ∀ j, j < v → f j < v)
    (hK : ∀ ord, SF v f (posR (bM M) v f v) ord → K (nI (posR (bM M) v f v)) ord) :
    ∀ n x (ord : Nat → Int32), x ≤ v → x < n → SF v f x ord → posR (bM M) v f v = posR (bM M) v f x → p_X6_list_14 N (nI v) c0 c1 c2 c3 c4 c5 c6 c7 c8 m K n (nI x) ord := by
  have h16 := hW.1
  intro n
  induction n with
  | zero => intro x ord h1 h2; omega
  | succ n ih =>
    intro x ord h1 h2 h3 h5
    unfold p_X6_list_14
    simp (disch := omega) only [zl, nS]
    refine ⟨fun h => ?_, fun h => ?_⟩
    · have : x = 0 := by omega
      subst this
      rw [posR_0] at h5
      have := hK ord (by rw [h5]; exact h3)
      rw [h5] at this
      exact this
    · obtain ⟨y, rfl⟩ : ∃ y, x = y + 1 := ⟨x - 1, by omega⟩
      have hy := hf y (by omega)
      simp (disch := omega) only [nS, dn1]
      rw [show y + 1 - 1 = y by omega, h3.1 y (by omega)]
      refine ⟨by omega, s_isBefore6 hN hW hm hv hy (fun hA => ⟨fun z => absurd z (by decide), fun _ => ⟨by omega, by omega, ?_⟩⟩) (fun hA => ⟨fun _ => ?_, fun z => absurd rfl z⟩)⟩
      · exact ih y _ (by omega) (by omega) (SF_s h3 (by omega)) (by rw [h5]; exact posR_t hA)
      · have e : posR (bM M) v f v = y + 1 := by rw [h5]; exact posR_f hA
        have := hK ord (by rw [e]; exact h3)
        rw [e] at this
        exact this
theorem s_list {N : Nat} {M : Nat → Nat} {c0 c1 c2 c3 c4 c5 c6 c7 : Int32} {c8 : Int64} {m row : Nat → Int32} {Q : (Nat → Int32) → Prop} (hN : 1000 < N) (hW : WF M) (hm : RM M m) (hq : ∀ row, RO (M 0) (roM M) row → Q row) : p_X6_list N c0 c1 c2 c3 c4 c5 c6 c7 c8 m row Q := by
  have h16 := hW.1
  have main : ∀ n v (row : Nat → Int32), v ≤ M 0 → M 0 - v < n → RO v (rk (bM M) trP v).2 row → p_X6_list_2 N c0 c1 c2 c3 c4 c5 c6 c7 c8 m (fun _ r => Q r) n (nI v) row := by
    intro n
    induction n with
    | zero => intro v row h1 h2; omega
    | succ n ih =>
      intro v row h1 h2 h3
      unfold p_X6_list_2
      simp (disch := omega) only [zl, nS]
      rw [hm 0 (by decide)]
      simp (disch := omega) only [nS]
      refine ⟨fun h => ?_, fun h => ?_⟩
      · have : v = M 0 := by omega
        subst this
        exact hq _ h3
      · have p1 := (posR_p (bM M) v (rk (bM M) trP v).2 v).1
        refine s_list_14 (f := (rk (bM M) trP v).2) hN hW hm (by omega) (fun j hj => rk_all_lt _ hj) (fun ord ho => ?_) N v row (Nat.le_refl _) (by omega) (SF_0 h3) rfl
        simp (disch := omega) only [nS]
        refine ⟨by omega, ih (v + 1) _ (by omega) (by omega) ?_⟩
        rw [rk_all_s]
        exact RO_ins p1 ho.1 ho.2
  unfold p_X6_list
  simp only [zl]
  exact main N 0 row (by omega) (by omega) (fun j hj => absurd hj (by omega))

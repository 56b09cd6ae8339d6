/-! the order of the listing -/
def kM (M : Nat → Nat) (l v : Nat) : Nat := if l = 0 then k5 0 (M (10 + 8 * v)) (M (10 + 8 * v + 1)) 0 else if l = 1 then k5 1 (M (10 + 8 * v + 2)) (M (10 + 8 * v + 3)) (M (10 + 8 * v + 4)) else k5 2 (M (10 + 8 * v + 5)) 0 0
def bM (M : Nat → Nat) (u w : Nat) : Prop := kM M 0 u < kM M 0 w ∨ (kM M 0 u = kM M 0 w ∧ (kM M 1 u < kM M 1 w ∨ (kM M 1 u = kM M 1 w ∧ (kM M 2 u < kM M 2 w ∨ (kM M 2 u = kM M 2 w ∧ u < w)))))
theorem bM_TO (M : Nat → Nat) : TO (bM M) := ⟨fun u w h => by unfold bM; omega, fun u w h => by unfold bM at h ⊢; omega, fun u w x h h2 => by unfold bM at h h2 ⊢; omega⟩
theorem kM_keys {M : Nat → Nat} {keys : Nat → Int64} (h : KV M keys) {v l : Nat} (hv : v < M 0) (hl : l < 3) : keys (v * 3 + l) = lN (kM M l v) := by
  obtain ⟨a, b, c⟩ := h v hv
  rcases (show l = 0 ∨ l = 1 ∨ l = 2 by omega) with rfl | rfl | rfl
  · exact a
  · exact b
  · exact c
theorem okv_okR {M : Nat → Nat} (hW : WF M) {v : Nat} (hv : v < M 0) : okR 0 (M (10 + 8 * v)) (M (10 + 8 * v + 1)) 0 ∧ okR 1 (M (10 + 8 * v + 2)) (M (10 + 8 * v + 3)) (M (10 + 8 * v + 4)) ∧ okR 2 (M (10 + 8 * v + 5)) 0 0 := by
  obtain ⟨a, b, c, _⟩ := hW.2.2.2.1 v hv
  exact ⟨a.1, b.1, c.1⟩
theorem kM_b {M : Nat → Nat} (hW : WF M) {v l : Nat} (hv : v < M 0) (hl : l < 3) : kM M l v < 1152921504606846976 := by
  obtain ⟨a, b, c⟩ := okv_okR hW hv
  rcases (show l = 0 ∨ l = 1 ∨ l = 2 by omega) with rfl | rfl | rfl
  · exact k5_b (by decide) a
  · exact k5_b (by decide) b
  · exact k5_b (by decide) c
theorem lg_lt {a b : Nat} (ha : a < 9223372036854775808) (hb : b < 9223372036854775808) : (nI 0 ≤ lg_cmp (lN a) (lN b)) = (b ≤ a) := by
  unfold lg_cmp
  have h1 : (lN a > lN b) = (b < a) := by
    show (lN b < lN a) = _
    exact propext (pk_lLT hb ha)
  have h2 : (lN a = lN b) = (a = b) := propext (pk_lEQ ha hb)
  simp only [h1, h2]
  by_cases q : b < a
  · simp only [q, if_true]
    exact propext ⟨fun _ => by omega, fun _ => by decide⟩
  · simp only [q, if_false]
    by_cases r : a = b
    · simp only [r, if_true]
      exact propext ⟨fun _ => Nat.le_refl _, fun _ => by decide⟩
    · simp only [r, if_false]
      exact propext ⟨fun z => absurd z (by decide), fun z => by omega⟩
theorem s_isBefore0 {N u w : Nat} {M : Nat → Nat} {c0 : Int32} {keys : Nat → Int64} {Q : Int32 → Prop} (hN : 1000 < N) (hW : WF M) (hK : KV M keys) (hu : u < M 0) (hw : w < u) (h1 : bM M u w → Q (nI 1)) (h0 : ¬ bM M u w → Q (nI 0)) : p_X0_isBefore N c0 (nI (M 0)) keys (nI u) (nI w) Q := by
  have h16 := hW.1
  obtain ⟨N, rfl⟩ : ∃ m, N = m + 1 + 1 + 1 + 1 := ⟨N - 4, by omega⟩
  have stp : ∀ (l n : Nat) (K1 : Int32 → Int64 → Int64 → Prop) (K2 : Int32 → Prop), l < 3 → (kM M l u = kM M l w → p_X0_isBefore_2 (N + 1 + 1 + 1 + 1) (nI u) (nI w) c0 (nI (M 0)) keys K1 K2 n (nI (l + 1))) → (¬ kM M l u = kM M l w → K1 (nI l) (lN (kM M l u)) (lN (kM M l w))) → p_X0_isBefore_2 (N + 1 + 1 + 1 + 1) (nI u) (nI w) c0 (nI (M 0)) keys K1 K2 (n + 1) (nI l) := by
    intro l n K1 K2 hl a b
    have b1 := kM_b hW hu hl
    have b2 := kM_b hW (show w < M 0 by omega) hl
    unfold p_X0_isBefore_2
    simp (disch := omega) only [zl, nS]
    refine ⟨fun h => absurd h (by omega), fun _ => s_keyOf (by omega) hl (s_keyOf (by omega) hl ?_)⟩
    rw [kM_keys hK hu hl, kM_keys hK (show w < M 0 by omega) hl, cmp0 (by omega) (by omega)]
    exact ⟨a, b⟩
  have fin : ∀ (l : Nat), l < 3 → (kM M l u < kM M l w → bM M u w) → (kM M l w < kM M l u → ¬ bM M u w) → ¬ kM M l u = kM M l w → (nI 0 ≤ lg_cmp (lN (kM M l u)) (lN (kM M l w)) → Q (nI 0)) ∧ (¬ nI 0 ≤ lg_cmp (lN (kM M l u)) (lN (kM M l w)) → Q (nI 1)) := by
    intro l hl a b c
    have b1 := kM_b hW hu hl
    have b2 := kM_b hW (show w < M 0 by omega) hl
    rw [lg_lt (by omega) (by omega)]
    exact ⟨fun h => h0 (b (by omega)), fun h => h1 (a (by omega))⟩
  unfold p_X0_isBefore
  simp only [zl]
  refine stp 0 _ _ _ (by decide) (fun e0 => stp 1 _ _ _ (by decide) (fun e1 => stp 2 _ _ _ (by decide) (fun e2 => ?_) (fin 2 (by decide) (fun h => by unfold bM; omega) (fun h => by unfold bM; omega))) (fin 1 (by decide) (fun h => by unfold bM; omega) (fun h => by unfold bM; omega))) (fin 0 (by decide) (fun h => by unfold bM; omega) (fun h => by unfold bM; omega))
  unfold p_X0_isBefore_2
  refine ⟨fun _ => h0 (by unfold bM; omega), fun z => absurd (by decide) z⟩
def trP (_ : Nat) : Prop := True
/-- the variants in the order of the listing -/
noncomputable def roM (M : Nat → Nat) : Nat → Nat := (rk (bM M) trP (M 0)).2
theorem rk_all (A : Nat → Nat → Prop) : ∀ k, (rk A trP k).1 = k
  | 0 => rfl
  | k + 1 => by
    rw [rk_t (show trP k from trivial)]
    show (rk A trP k).1 + 1 = _
    rw [rk_all A k]
theorem rk_all_s (A : Nat → Nat → Prop) (k : Nat) : (rk A trP (k + 1)).2 = insR k (posR A k (rk A trP k).2 k) (rk A trP k).2 := by
  rw [rk_t (show trP k from trivial)]
  show insR k (posR A k (rk A trP k).2 (rk A trP k).1) (rk A trP k).2 = _
  rw [rk_all]
theorem rk_all_lt (A : Nat → Nat → Prop) {k i : Nat} (h : i < k) : (rk A trP k).2 i < k := (rk_lt A trP k).2 i (by rw [rk_all]; exact h)
theorem s_insert_2 {N v : Nat} {f : Nat → Nat} {M : Nat → Nat} {c0 : Int32} {keys : Nat → Int64} {K : Int32 → (Nat → Int32) → Prop} (hN : 1000 < N) (hW : WF M) (hKV : KV M keys) (hv : v < M 0) (hf : ∀ j, j < v → f j < v)
    (hK : ∀ ord, SF v f (posR (bM M) v f v) ord → K (nI (posR (bM M) v f v)) ord) :
    ∀ n x (ord : Nat → Int32), x ≤ v → x < n → SF v f x ord → posR (bM M) v f v = posR (bM M) v f x → p_X0_insert_2 N (nI v) c0 (nI (M 0)) keys K n (nI x) ord := by
  have h16 := hW.1
  intro n
  induction n with
  | zero => intro x ord h1 h2; omega
  | succ n ih =>
    intro x ord h1 h2 h3 h5
    unfold p_X0_insert_2
    simp (disch := omega) only [zl, nS]
    refine ⟨fun h => ?_, fun h => ?_⟩
    · have : x = 0 := by omega
      subst this
      rw [posR_0] at h5
      have := hK ord (by rw [h5]; exact h3)
      rw [h5] at this
      exact this
    · obtain ⟨y, rfl⟩ : ∃ y, x = y + 1 := ⟨x - 1, by omega⟩
      have hy := hf y (by omega)
      simp (disch := omega) only [nS, dn1]
      rw [show y + 1 - 1 = y by omega, h3.1 y (by omega)]
      refine ⟨by omega, s_isBefore0 hN hW hKV hv hy (fun hA => ⟨fun z => absurd z (by decide), fun _ => ⟨by omega, by omega, ?_⟩⟩) (fun hA => ⟨fun _ => ?_, fun z => absurd rfl z⟩)⟩
      · exact ih y _ (by omega) (by omega) (SF_s h3 (by omega)) (by rw [h5]; exact posR_t hA)
      · have e : posR (bM M) v f v = y + 1 := by rw [h5]; exact posR_f hA
        have := hK ord (by rw [e]; exact h3)
        rw [e] at this
        exact this

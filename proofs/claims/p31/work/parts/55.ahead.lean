/-! which of two is ahead -/
/-- the ties from rule i on, r rules; then the lower place -/
def tie (M : Nat → Nat) (es u qu w qw : Nat) : Nat → Nat → Prop
  | 0, _ => u < w
  | r + 1, i => (tR M es u qu (M (1 + i)) = tR M es w qw (M (1 + i)) → tie M es u qu w qw r (i + 1)) ∧ (¬ tR M es u qu (M (1 + i)) = tR M es w qw (M (1 + i)) → tR M es u qu (M (1 + i)) < tR M es w qw (M (1 + i)))
def ahd (M : Nat → Nat) (es u qu su w qw sw : Nat) : Prop := sw < su ∨ (su = sw ∧ tie M es u qu w qw 3 0)
theorem neg_t {q : Nat} (h : q ≤ 1000000) : (-nI q).toInt = -(q : Int) := by
  rw [Int32.toInt_neg, nI_t (by omega)]
  exact Int.bmod_eq_of_le (by omega) (by omega)
theorem tP_le {M : Nat → Nat} (hW : WF M) {es k v : Nat} (hk : k < 2) : tP M es k v ≤ 100 := by
  have := plW_le M k v
  have := hW.2.1 k (by omega)
  unfold tP
  split
  · omega
  · split <;> omega
theorem tR_b {M : Nat → Nat} (hW : WF M) {es v q rule : Nat} (hv : v < M 0) (hq : q ≤ 1000) : -1000000 ≤ (tR M es v q rule).toInt ∧ (tR M es v q rule).toInt ≤ 1000000 := by
  have h6 := (hW.2.2.2.1 v hv).2.2.2.1
  unfold tR
  by_cases q1 : rule = 1
  · rw [if_pos q1, nI_t (by omega)]; omega
  · rw [if_neg q1]
    by_cases q2 : rule = 2
    · rw [if_pos q2, neg_t (by omega)]; omega
    · rw [if_neg q2]
      by_cases q3 : rule = 3
      · have := tP_le (v := v) (es := es) hW (show 0 < 2 by decide)
        rw [if_pos q3, nI_t (by omega)]; omega
      · rw [if_neg q3]
        by_cases q4 : rule = 4
        · have := tP_le (v := v) (es := es) hW (show 1 < 2 by decide)
          rw [if_pos q4, nI_t (by omega)]; omega
        · rw [if_neg q4]
          by_cases q5 : rule = 5
          · rw [if_pos q5, neg_t (by omega)]; omega
          · rw [if_neg q5, nI_t (by decide)]; omega
theorem sub_b {a b : Int32} (ha : -1000000 ≤ a.toInt ∧ a.toInt ≤ 1000000) (hb : -1000000 ≤ b.toInt ∧ b.toInt ≤ 1000000) : (a - b = nI 0) = (a = b) ∧ (nI 0 ≤ a - b) = ¬ (a < b) := by
  have e : (a - b).toInt = a.toInt - b.toInt := by
    rw [Int32.toInt_sub]
    exact Int.bmod_eq_of_le (by omega) (by omega)
  refine ⟨propext ⟨fun h => ?_, fun h => ?_⟩, propext ⟨fun h => ?_, fun h => ?_⟩⟩
  · have h2 := congrArg Int32.toInt h
    rw [e, nI_t (by decide)] at h2
    exact Int32.toInt_inj.mp (by omega)
  · rw [h]
    apply Int32.toInt_inj.mp
    rw [Int32.toInt_sub, Int.sub_self]
    rfl
  · rw [Int32.le_iff_toInt_le, e, nI_t (by decide)] at h
    rw [Int32.lt_iff_toInt_lt]
    omega
  · rw [Int32.lt_iff_toInt_lt] at h
    rw [Int32.le_iff_toInt_le, e, nI_t (by decide)]
    omega
theorem tR_q {M : Nat → Nat} {es v q q' rule : Nat} (h : rule ≠ 5) : tR M es v q rule = tR M es v q' rule := by
  unfold tR
  rw [if_neg h, if_neg h]
theorem tR_5 (M : Nat → Nat) (es v q : Nat) : tR M es v q 5 = -nI q := rfl
theorem le_lt (a b : Int32) : (a ≤ b) = ¬ (b < a) := propext (by rw [Int32.lt_iff_toInt_lt, Int32.le_iff_toInt_le]; omega)
theorem s_isAhead1 {N es u w qw su sw : Nat} {M : Nat → Nat} {c0 c1 : Int32} {ties tr : Nat → Int32} {Q : Int32 → Prop} (hN : 1000 < N) (hW : WF M) (hT : TI M ties) (hu : u < M 0) (hw : w < M 0) (hsu : su < 100000) (hsw : sw < 100000)
    (tu : ∀ i, i < 3 → tr (u * 3 + i) = tR M es u (M (10 + 8 * u + 7)) (M (1 + i))) (tw : ∀ i, i < 3 → tr (w * 3 + i) = tR M es w (M (10 + 8 * w + 7)) (M (1 + i))) (h1 : ahd M es u (M (10 + 8 * u + 7)) su w qw sw → Q (nI 1)) (h0 : ¬ ahd M es u (M (10 + 8 * u + 7)) su w qw sw → Q (nI 0)) : p_X2_isAhead N c0 c1 ties tr (nI u) (nI su) (nI w) (nI sw) (nI qw) Q := by
  have h16 := hW.1
  unfold p_X2_isAhead
  simp (disch := omega) only [zl, nS]
  refine ⟨fun h => ?_, fun h => ⟨fun h2 => h0 (fun z => ?_), fun h2 => h1 (Or.inl (by omega))⟩⟩
  · subst h
    have t1 : tie M es u (M (10 + 8 * u + 7)) w qw 3 0 → Q (nI 1) := fun z => h1 (Or.inr ⟨rfl, z⟩)
    have t0 : ¬ tie M es u (M (10 + 8 * u + 7)) w qw 3 0 → Q (nI 0) := fun z => h0 (fun z2 => z2.elim (fun z3 => by omega) (fun z3 => z z3.2))
    have main : ∀ n r i, i + r = 3 → r < n → (tie M es u (M (10 + 8 * u + 7)) w qw r i → Q (nI 1)) → (¬ tie M es u (M (10 + 8 * u + 7)) w qw r i → Q (nI 0)) → p_X2_isAhead_21 N (nI u) (nI su) (nI w) (nI su) (nI qw) c0 c1 ties tr (fun _ _ a b => (b ≤ a → Q (nI 0)) ∧ (¬ b ≤ a → Q (nI 1))) (fun _ => (w ≤ u → Q (nI 0)) ∧ (¬ w ≤ u → Q (nI 1))) n (nI i) := by
      intro n
      induction n with
      | zero => intro r i a b; omega
      | succ n ih =>
        intro r i hi hn g1 g0
        unfold p_X2_isAhead_21
        simp (disch := omega) only [zl, nS]
        refine ⟨fun h => ?_, fun h => ?_⟩
        · have : r = 0 := by omega
          subst this
          exact ⟨fun z => g0 (fun z2 => by have z3 : u < w := z2; omega), fun z => g1 (show u < w by omega)⟩
        · obtain ⟨r, rfl⟩ : ∃ r', r = r' + 1 := ⟨r - 1, by omega⟩
          have hr := hW.2.2.1 i (by omega)
          unfold tie at g1 g0
          rw [hT i (by omega), tu i (by omega), tw i (by omega)]
          simp (disch := omega) only [nS]
          refine ⟨by omega, fun h5 => ⟨by omega, by omega, ?_⟩, fun h5 => ⟨by omega, ?_⟩⟩
          · rw [tR_q (q := M (10 + 8 * w + 7)) (q' := qw) h5]
            refine ⟨fun e => ih r (i + 1) (by omega) (by omega) (fun z => g1 ⟨fun _ => z, fun z2 => absurd e z2⟩) (fun z => g0 (fun z2 => z (z2.1 e))), fun e => ⟨fun z => g0 (fun z2 => (by rw [le_lt] at z; exact z (z2.2 e))), fun z => g1 ⟨fun z2 => absurd z2 e, fun _ => (by rw [le_lt] at z; exact Decidable.not_not.mp z)⟩⟩⟩
          · rw [← tR_5 M es w qw, ← h5]
            refine ⟨fun e => ih r (i + 1) (by omega) (by omega) (fun z => g1 ⟨fun _ => z, fun z2 => absurd e z2⟩) (fun z => g0 (fun z2 => z (z2.1 e))), fun e => ⟨fun z => g0 (fun z2 => (by rw [le_lt] at z; exact z (z2.2 e))), fun z => g1 ⟨fun z2 => absurd z2 e, fun _ => (by rw [le_lt] at z; exact Decidable.not_not.mp z)⟩⟩⟩
    exact main N 3 0 rfl (by omega) t1 t0
  · rcases z with z | z <;> omega

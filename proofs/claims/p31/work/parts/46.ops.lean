/-! the calls that change the state: the class, as the law makes them -/
theorem s_isRule {N : Nat} {x : Int32} {Q : Int32 → Prop} (h1 : ∀ v, v ≤ 5 → x = nI v → Q (nI 1)) (h0 : (∀ v, v ≤ 5 → x ≠ nI v) → Q (nI 0)) : p_X5_isRule N x Q := by
  unfold p_X5_isRule
  simp only [zl]
  rcases i32 x with e | ⟨v, hv, rfl⟩
  · obtain ⟨e1, e2, e3, e4⟩ := i32_n e
    exact ⟨fun _ => h0 (fun v hv => e2 v (by omega)), fun z => absurd (by rw [e1]; trivial) z⟩
  · simp (disch := omega) only [nS]
    refine ⟨fun z => absurd z (by omega), fun _ => ⟨fun z => h0 (fun w hw q => ?_), fun z => h1 v (by omega) rfl⟩⟩
    rw [show (nI v = nI w) = (v = w) from nS.2.2.2.2.2.2.2.2.2.1 v w hv (by omega)] at q
    omega

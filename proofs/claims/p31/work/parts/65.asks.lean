/-! the asking calls: the class's, as the law makes them, and the reference's -/
theorem i32_c (x : Int32) (hi : Nat) (h : hi < 2147483648) : (∃ w, w ≤ hi ∧ x = nI w) ∨ (∀ w, w ≤ hi → x ≠ nI w) := by
  rcases i32 x with e | ⟨v, hv, rfl⟩
  · exact Or.inr (fun w hw => (i32_n e).2.1 w (by omega))
  · by_cases q : v ≤ hi
    · exact Or.inl ⟨v, q, rfl⟩
    · refine Or.inr (fun w hw z => ?_)
      rw [show (nI v = nI w) = (v = w) from nS.2.2.2.2.2.2.2.2.2.1 v w hv (by omega)] at z
      omega
/-- a check 0 ≤ x ≤ hi, as the class writes it -/
theorem br_rng {x : Int32} {hi : Nat} {A B C : Prop} (h : hi < 2147483648) (h1 : ∀ w, w ≤ hi → x = nI w → B) (h0 : (∀ w, w ≤ hi → x ≠ nI w) → A ∧ C) : (x < nI 0 → A) ∧ (¬ x < nI 0 → (x ≤ nI hi → B) ∧ (¬ x ≤ nI hi → C)) := by
  rcases i32 x with e | ⟨v, hv, rfl⟩
  · obtain ⟨e1, e2, e3, e4⟩ := i32_n e
    have := h0 (fun w hw => e2 w (by omega))
    exact ⟨fun _ => this.1, fun z => absurd (by rw [e1]; trivial) z⟩
  · simp (disch := omega) only [nS]
    refine ⟨fun z => absurd z (by omega), fun _ => ⟨fun z => h1 v z rfl, fun z => (h0 (fun w hw q => ?_)).2⟩⟩
    rw [show (nI v = nI w) = (v = w) from nS.2.2.2.2.2.2.2.2.2.1 v w hv (by omega)] at q
    omega
/-- a check 0 ≤ x -/
theorem br_nn {x : Int32} {A B : Prop} (h1 : ∀ w, w < 2147483648 → x = nI w → A) (h0 : (∀ w, w < 2147483648 → x ≠ nI w) → B) : (nI 0 ≤ x → A) ∧ (¬ nI 0 ≤ x → B) := by
  rcases i32 x with e | ⟨v, hv, rfl⟩
  · obtain ⟨e1, e2, e3, e4⟩ := i32_n e
    refine ⟨fun z => absurd z (fun z => by rw [e3 0 (by decide)] at z; exact z), fun _ => h0 (fun w hw => e2 w hw)⟩
  · refine ⟨fun _ => h1 v hv rfl, fun z => absurd (by simp (disch := omega) only [nS]; omega) z⟩
theorem s_servedWithoutSide {N es : Nat} {M : Nat → Nat} {kc st : Int32} {rc : Int32} {ps ws scs tr rks ord : Nat → Int32} {keys ranges : Nat → Int64} {sizes qs lengths names weights ties : Nat → Int32} {Q : Int32 → Int32 → (Nat → Int32) → (Nat → Int32) → (Nat → Int32) → (Nat → Int32) → (Nat → Int32) → (Nat → Int32) → Prop} (hN : 1000 < N) (hW : WF M) (hST : ST M (nI (M 0)) keys sizes qs lengths ranges names weights ties) (he : es ≤ 2) (hq : ∀ rc ps ws scs tr rks ord, Q (nP (fiM M es 0)) rc ps ws scs tr rks ord) : p_X5_servedWithoutSide N kc st rc (nI (M 0)) lengths names keys ranges ps weights ws qs scs ties sizes tr rks ord (nP es) Q := by
  have h16 := hW.1
  have r1 := (rkM_lt M es 0).1
  unfold p_X5_servedWithoutSide
  simp only [zl]
  refine s_workOut (es := es) hN hW he hST (fun rc ps ws scs tr rks ord h1 => ?_)
  rw [h1.2.2.2.2.1]
  refine s_variantAt2 (by omega) (by decide) h1.2.2.2.2.2.1 ?_
  rw [fiM_at]
  exact hq _ _ _ _ _ _ _
theorem s_X5_agree {N : Nat} {M : Nat → Nat} {kc st : Int32} {rc : Int32} {ps ws scs tr rks ord : Nat → Int32} {keys ranges : Nat → Int64} {sizes qs lengths names weights ties : Nat → Int32} {Q : Int32 → Int32 → (Nat → Int32) → (Nat → Int32) → (Nat → Int32) → (Nat → Int32) → (Nat → Int32) → (Nat → Int32) → Prop} (hN : 1000 < N) (hW : WF M) (hST : ST M (nI (M 0)) keys sizes qs lengths ranges names weights ties)
    (hok : ∀ rc ps ws scs tr rks ord, Q (if nP (fiM M 2 0) = nP (fiM M 1 0) then nI 1 else nI 0) rc ps ws scs tr rks ord) : p_X5_agree N kc st rc (nI (M 0)) lengths names keys ranges ps weights ws qs scs ties sizes tr rks ord Q := by
  unfold p_X5_agree
  simp only [zl]
  refine s_servedWithoutSide (es := 2) hN hW hST (by decide) (fun rc ps ws scs tr rks ord => ?_)
  refine s_servedWithoutSide (es := 1) hN hW hST (by decide) (fun rc ps ws scs tr rks ord => ?_)
  have hh := hok rc ps ws scs tr rks ord
  refine ⟨fun z => ?_, fun z => ?_⟩
  · rw [if_neg z] at hh; exact hh
  · rw [if_pos z] at hh; exact hh

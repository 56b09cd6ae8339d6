/-! of two variants one is ahead, and only one -/
theorem tie_tot {M : Nat → Nat} {es u qu w qw : Nat} (h : u ≠ w) : ∀ (r i : Nat), tie M es u qu w qw r i ∨ tie M es w qw u qu r i
  | 0, _ => by
    show u < w ∨ w < u
    omega
  | r + 1, i => by
    unfold tie
    by_cases e : tR M es u qu (M (1 + i)) = tR M es w qw (M (1 + i))
    · rcases tie_tot (M := M) (es := es) (qu := qu) (qw := qw) h r (i + 1) with t | t
      · exact Or.inl ⟨fun _ => t, fun z => absurd e z⟩
      · exact Or.inr ⟨fun _ => t, fun z => absurd e.symm z⟩
    · have hn : ¬ (tR M es u qu (M (1 + i))).toInt = (tR M es w qw (M (1 + i))).toInt := fun z => e (Int32.toInt_inj.mp z)
      rcases Int.lt_or_gt_of_ne hn with t | t
      · exact Or.inl ⟨fun z => absurd z e, fun _ => Int32.lt_iff_toInt_lt.mpr t⟩
      · exact Or.inr ⟨fun z => absurd z.symm e, fun _ => Int32.lt_iff_toInt_lt.mpr t⟩
theorem tie_asym {M : Nat → Nat} {es u qu w qw : Nat} : ∀ (r i : Nat), tie M es u qu w qw r i → ¬ tie M es w qw u qu r i
  | 0, _, h, h2 => by
    have a : u < w := h
    have b : w < u := h2
    omega
  | r + 1, i, h, h2 => by
    unfold tie at h h2
    by_cases e : tR M es u qu (M (1 + i)) = tR M es w qw (M (1 + i))
    · exact tie_asym r (i + 1) (h.1 e) (h2.1 e.symm)
    · have a := Int32.lt_iff_toInt_lt.mp (h.2 e)
      have b := Int32.lt_iff_toInt_lt.mp (h2.2 (fun z => e z.symm))
      omega
theorem ahd_tot {M : Nat → Nat} {es u qu su w qw sw : Nat} (h : u ≠ w) : ahd M es u qu su w qw sw ∨ ahd M es w qw sw u qu su := by
  unfold ahd
  rcases Nat.lt_trichotomy su sw with q | q | q
  · exact Or.inr (Or.inl q)
  · rcases tie_tot (M := M) (es := es) (qu := qu) (qw := qw) h 3 0 with t | t
    · exact Or.inl (Or.inr ⟨q, t⟩)
    · exact Or.inr (Or.inr ⟨q.symm, t⟩)
  · exact Or.inl (Or.inl q)
theorem ahd_asym {M : Nat → Nat} {es u qu su w qw sw : Nat} (h : ahd M es u qu su w qw sw) : ¬ ahd M es w qw sw u qu su := by
  unfold ahd at h ⊢
  intro h2
  rcases h with h | h
  · rcases h2 with h2 | h2 <;> omega
  · rcases h2 with h2 | h2
    · omega
    · exact tie_asym 3 0 h.2 h2.2


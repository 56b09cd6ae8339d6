/-! the law's check of the lists -/
theorem nC_or {P Q R : Nat → Prop} : ∀ n, (∀ v, v < n → ¬ (P v ∧ Q v)) → (∀ v, v < n → (R v ↔ P v ∨ Q v)) → nC R n = nC P n + nC Q n
  | 0, _, _ => rfl
  | n + 1, h1, h2 => by
    have ih := nC_or n (fun v hv => h1 v (by omega)) (fun v hv => h2 v (by omega))
    by_cases p : P n
    · have q : ¬ Q n := fun q => h1 n (by omega) ⟨p, q⟩
      rw [nC_t ((h2 n (by omega)).mpr (Or.inl p)), nC_t p, nC_f q, ih]
      omega
    · by_cases q : Q n
      · rw [nC_t ((h2 n (by omega)).mpr (Or.inr q)), nC_f p, nC_t q, ih]
        omega
      · rw [nC_f (fun r => ((h2 n (by omega)).mp r).elim p q), nC_f p, nC_f q, ih]
theorem nC_mono {P Q : Nat → Prop} : ∀ n, (∀ v, v < n → P v → Q v) → nC P n ≤ nC Q n
  | 0, _ => Nat.le_refl _
  | n + 1, h => by
    have ih := nC_mono n (fun v hv => h v (by omega))
    by_cases p : P n
    · rw [nC_t p, nC_t (h n (by omega) p)]
      omega
    · rw [nC_f p]
      by_cases q : Q n
      · rw [nC_t q]
        omega
      · rw [nC_f q]
        exact ih
theorem nC_all {P : Nat → Prop} : ∀ n, (∀ v, v < n → P v) → nC P n = n
  | 0, _ => rfl
  | n + 1, h => by rw [nC_t (h n (by omega)), nC_all n (fun v hv => h v (by omega))]
theorem pl_fit {M : Nat → Nat} {l v : Nat} : ∀ (r e p s : Nat), pl M l v r e p s = p ∨ ∃ e', e' < e + r ∧ pl M l v r e p s = e' + 1 ∧ fitE M l e' v
  | 0, _, _, _ => Or.inl rfl
  | r + 1, e, p, s => by
    by_cases q : fitE M l e v ∧ s < cnE M l e + 1
    · have e1 : pl M l v (r + 1) e p s = pl M l v r (e + 1) (e + 1) (cnE M l e + 1) := if_pos q
      rw [e1]
      rcases pl_fit r (e + 1) (e + 1) (cnE M l e + 1) with h | ⟨e', h1, h2, h3⟩
      · exact Or.inr ⟨e, by omega, h, q.1⟩
      · exact Or.inr ⟨e', by omega, h2, h3⟩
    · have e1 : pl M l v (r + 1) e p s = pl M l v r (e + 1) p s := if_neg q
      rw [e1]
      rcases pl_fit r (e + 1) p s with h | ⟨e', h1, h2, h3⟩
      · exact Or.inl h
      · exact Or.inr ⟨e', by omega, h2, h3⟩
theorem plW_fit {M : Nat → Nat} {l v e : Nat} (h : plW M l v = e + 1) : fitE M l e v := by
  rcases pl_fit (M := M) (l := l) (v := v) (M (4 + l)) 0 0 0 with h1 | ⟨e', h1, h2, h3⟩
  · have : plW M l v = 0 := h1
    omega
  · have h4 : plW M l v = e' + 1 := h2
    obtain rfl : e' = e := by omega
    exact h3
noncomputable def sC (M : Nat → Nat) (l n : Nat) : Nat → Nat
  | 0 => 0
  | i + 1 => sC M l n i + nC (fun v => plW M l v = i + 1) n
theorem sC_e {M : Nat → Nat} {l n : Nat} : ∀ i, sC M l n i = nC (fun v => plW M l v ≠ 0 ∧ plW M l v ≤ i) n
  | 0 => by
    show 0 = _
    have h := nC_mono (P := fun v => plW M l v ≠ 0 ∧ plW M l v ≤ 0) (Q := fun _ => False) n (fun v _ h => by omega)
    have h2 : nC (fun _ => False) n = 0 := by
      induction n with
      | zero => rfl
      | succ n ih => rw [nC_f (fun h => h)]; exact ih (nC_mono n (fun v _ h => by omega))
    omega
  | i + 1 => by
    show sC M l n i + _ = _
    rw [sC_e i]
    exact (nC_or n (fun v _ h => by omega) (fun v _ => by omega)).symm
theorem nP_eq {p i : Nat} (hp : p < 1000) (hi : i < 1000) : (nP p = nI i) = (p = i + 1) := by
  by_cases q : p = 0
  · rw [q, nP_0, nSm.2.2.1 i (by omega)]
    exact propext ⟨False.elim, fun h => by omega⟩
  · rw [nP_p q, show (nI (p - 1) = nI i) = (p - 1 = i) from nS.2.2.2.2.2.2.2.2.2.1 _ i (by omega) (by omega)]
    exact propext ⟨fun h => by omega, fun h => by omega⟩
section SL
variable {z : DS}
theorem sl_89 (hW : WF (zM z)) {k i : Nat} (hk : k < 6) (hi : i < 10) {K : Int32 → Int32 → Prop} (hK : ∀ x, K (nI (nC (fun v => plW (zM z) k v = i + 1) (zM z 0))) x) : ∀ (r v f : Nat), v + r = zM z 0 → r < f → p_L_lists_89 (nI (zM z 0)) z (nI k) (nI i) K f (nI (nC (fun v => plW (zM z) k v = i + 1) v)) (nI v) := by
  intro r
  induction r with
  | zero =>
    intro v f hv hf
    obtain ⟨f, rfl⟩ : ∃ g, f = g + 1 := ⟨f - 1, by omega⟩
    obtain rfl : v = zM z 0 := by omega
    exact brt (by rw [Int32.le_iff_toInt_le]; omega) (hK _)
  | succ r ih =>
    intro v f hv hf
    obtain ⟨f, rfl⟩ : ∃ g, f = g + 1 := ⟨f - 1, by omega⟩
    have h16 := hW.1
    have hp := plW_le (zM z) k v
    have h10 := hW.2.1 k hk
    have ih' := ih (v + 1) f (by omega) (by omega)
    have hn := nC_le (fun v => plW (zM z) k v = i + 1) v
    have h6 : ¬ nI (zM z 0) ≤ nI v := by
      simp (disch := omega) only [nS]
      omega
    refine brf h6 ?_
    generalize hB : p_L_lists_89 (nI (zM z 0)) z (nI k) (nI i) K f = B at ih'
    simp (disch := omega) only [zl, nS, qc_k hW hk, nP_eq]
    by_cases q : plW (zM z) k v = i + 1
    · refine bnt q ?_
      show B (nI _ + nI 1) (nI v + nI 1)
      rw [nS.1, nS.1]
      rw [nC_t (P := fun v => plW (zM z) k v = i + 1) q] at ih'
      exact ih'
    · refine bnf q ?_
      show B (nI _ + nI 0) (nI v + nI 1)
      rw [nS.1, nS.1]
      rw [nC_f (P := fun v => plW (zM z) k v = i + 1) q] at ih'
      exact ih'
theorem sl_22 (hW : WF (zM z)) {k : Nat} (hk : k < 6) {K1 : Int32 → Int32 → Int32 → Int32 → Int32 → Int32 → Int32 → Prop} {K2 : Int32 → Int32 → Prop} (hK : K2 (nI (sC (zM z) k (zM z 0) (zM z (4 + k)))) (nI (zM z (4 + k)))) : ∀ (r i f : Nat), i + r = zM z (4 + k) → r < f → p_L_lists_22 z (nI k) (nI (zM z 0)) K1 K2 f (nI (sC (zM z) k (zM z 0) i)) (nI i) := by
  intro r
  induction r with
  | zero =>
    intro i f hi hf
    obtain ⟨f, rfl⟩ : ∃ g, f = g + 1 := ⟨f - 1, by omega⟩
    have h10 := hW.2.1 k hk
    obtain rfl : i = zM z (4 + k) := by omega
    refine brt ?_ hK
    simp (disch := omega) only [zl, nS]
    rw [qe_kno hk (by omega) (Nat.le_refl _)]
    decide
  | succ r ih =>
    intro i f hi hf
    obtain ⟨f, rfl⟩ : ∃ g, f = g + 1 := ⟨f - 1, by omega⟩
    have h10 := hW.2.1 k hk
    have h16 := hW.1
    have hil : i < zM z (4 + k) := by omega
    have ho := hW.2.2.2.2 k hk i hil
    have ih' := ih (i + 1) f (by omega) (by omega)
    have hcn : cnE (zM z) k i ≤ ml (k % 3) := cn_ml (l := k % 3) (by omega) ho.1
    have hm := nC_le (fun v => fitE (zM z) k i v) (zM z 0)
    have hc := nC_le (fun v => plW (zM z) k v = i + 1) (zM z 0)
    have hmc : nC (fun v => plW (zM z) k v = i + 1) (zM z 0) ≤ nC (fun v => fitE (zM z) k i v) (zM z 0) := nC_mono _ (fun v _ h => plW_fit h)
    have e0 : q_entry z (nI (k / 3)) (nI (k - k / 3 * 3)) (nI i) (nI 0) = nI (zM z (ec k i + 3)) := qe_k hW hk hil (by omega)
    have e1 : q_entry z (nI (k / 3)) (nI (k - k / 3 * 3)) (nI i) (nI 1) = nI (cnE (zM z) k i) := qe_k hW hk hil (by omega)
    have e2 : q_entry z (nI (k / 3)) (nI (k - k / 3 * 3)) (nI i) (nI 2) = nI (nC (fun v => fitE (zM z) k i v) (zM z 0)) := qe_k hW hk hil (by omega)
    have e3 : q_entry z (nI (k / 3)) (nI (k - k / 3 * 3)) (nI i) (nI 3) = nI (nC (fun v => plW (zM z) k v = i + 1) (zM z 0)) := qe_k hW hk hil (by omega)
    have e4 := qe_4 hW hk hil
    have hw1 := ho.2
    have hcn3 : cnE (zM z) k i ≤ 3 := cn_le (zM z (ec k i)) (zM z (ec k i + 1)) (zM z (ec k i + 2))
    have hs : sC (zM z) k (zM z 0) (i + 1) = sC (zM z) k (zM z 0) i + nC (fun v => plW (zM z) k v = i + 1) (zM z 0) := rfl
    have hz0 : cnE (zM z) k i = 0 → nC (fun v => fitE (zM z) k i v) (zM z 0) = zM z 0 := by
      intro h
      refine nC_all _ (fun v _ => ?_)
      have h0 : zM z (ec k i) = 0 := by
        by_cases q : zM z (ec k i) = 0
        · exact q
        · have h : (if zM z (ec k i) = 0 then 0 else if zM z (ec k i + 1) = 0 then 1 else if zM z (ec k i + 2) = 0 then 2 else 3) = 0 := h
          rw [if_neg q] at h
          split at h
          · omega
          · split at h <;> omega
      have hr := ho.1
      obtain ⟨-, -, -, r1, r2, -, -⟩ := hr
      exact ⟨fun q => absurd h0 q, fun q => absurd (r1 h0) q, fun q => absurd (r2 (r1 h0)) q⟩
    generalize hB : p_L_lists_22 z (nI k) (nI (zM z 0)) K1 K2 f = B at ih'
    have fin : B (nI (sC (zM z) k (zM z 0) i) + nI (nC (fun v => plW (zM z) k v = i + 1) (zM z 0))) (nI i + nI 1) := by
      rw [nS.1, nS.1]
      exact ih'
    have j191 : ∀ x y, p_L_lists_j191 z (nI k) (nI i) B (nI (sC (zM z) k (zM z 0) i)) K1 x y := by
      intro x y
      unfold p_L_lists_j191
      simp (disch := omega) only [zl, nS.2.2.1, nS.2.1, nS.2.2.2.1, e3, e4]
      exact brt (by trivial) fin
    have j177 : ∀ x y m, cnE (zM z) k i ≤ m → m ≤ 3 → p_L_lists_j177 z (nI k) (nI i) K1 (nI (sC (zM z) k (zM z 0) i)) x y B (nI (zM z 0)) (nI m) := by
      intro x y m h1 h2
      unfold p_L_lists_j177
      simp (disch := omega) only [zl, nS, e1, e2]
      refine brf (by omega) ?_
      by_cases q : cnE (zM z) k i = 0
      · exact bnt q (bnt (hz0 q) (j191 x y))
      · exact bnf q (j191 x y)
    have hlt : ¬ (nI (zM z (ec k i + 3)) < nI 0) := by
      simp (disch := omega) only [nS]
      omega
    show (_ → _) ∧ (¬ _ → _)
    rw [hB]
    simp (disch := omega) only [zl, nS, e0, e1, e2, e3]
    refine brf (by omega) ?_
    refine sl_89 hW hk (by omega) (fun x => ?_) (zM z 0) 0 17 (by omega) (by omega)
    simp (disch := omega) only [zl, nS, e1, e2, e3]
    refine brf (by omega) (brf (by omega) (bnt (by trivial) (brf (by omega) ?_)))
    by_cases k0 : k - k / 3 * 3 = 0
    · have em : ml (k % 3) = 2 := by rw [show k % 3 = 0 by omega]; rfl
      exact bnt k0 (j177 _ _ 2 (by omega) (by omega))
    · refine bnf k0 ?_
      by_cases k1 : k - k / 3 * 3 = 1
      · have em : ml (k % 3) = 3 := by rw [show k % 3 = 1 by omega]; rfl
        exact bnt k1 (j177 _ _ 3 (by omega) (by omega))
      · have em : ml (k % 3) = 1 := by rw [show k % 3 = 2 by omega]; rfl
        exact bnf k1 (j177 _ _ 1 (by omega) (by omega))
theorem sl_225 (hW : WF (zM z)) {k : Nat} (hk : k < 6) {K1 K2 : Int32 → Int32 → Prop} (hK : ∀ x, K2 (nI (nC (fun v => plW (zM z) k v ≠ 0) (zM z 0))) x) : ∀ (r v f : Nat), v + r = zM z 0 → r < f → p_L_lists_225 (nI (zM z 0)) z (nI k) (nI (zM z (4 + k))) K1 K2 f (nI (nC (fun v => plW (zM z) k v ≠ 0) v)) (nI v) := by
  intro r
  induction r with
  | zero =>
    intro v f hv hf
    obtain ⟨f, rfl⟩ : ∃ g, f = g + 1 := ⟨f - 1, by omega⟩
    obtain rfl : v = zM z 0 := by omega
    exact brt (by rw [Int32.le_iff_toInt_le]; omega) (hK _)
  | succ r ih =>
    intro v f hv hf
    obtain ⟨f, rfl⟩ : ∃ g, f = g + 1 := ⟨f - 1, by omega⟩
    have h16 := hW.1
    have hp := plW_le (zM z) k v
    have h10 := hW.2.1 k hk
    have hw := wE_le hW (es := 0) (l := k) (v := v) hk
    have ih' := ih (v + 1) f (by omega) (by omega)
    have h6 : ¬ nI (zM z 0) ≤ nI v := by
      simp (disch := omega) only [nS]
      omega
    refine brf h6 ?_
    generalize hB : p_L_lists_225 (nI (zM z 0)) z (nI k) (nI (zM z (4 + k))) K1 K2 f = B at ih'
    have j254 : ∀ y, B (nI (nC (fun v => plW (zM z) k v ≠ 0) v + y)) (nI (v + 1)) → p_L_lists_j254 (nI (zM z (4 + k))) B (nI (nC (fun v => plW (zM z) k v ≠ 0) v)) (nI v) z (nI k) K1 (nI y) := by
      intro y go
      unfold p_L_lists_j254
      simp (disch := omega) only [zl, nS, qw_k hW]
      by_cases q : zM z (4 + k) = 0
      · refine bnt q (brt ?_ go)
        show wE (zM z) 0 k v = 1000
        unfold wE
        rw [if_neg (by omega), if_pos (by omega), if_pos q]
      · exact bnf q go
    simp (disch := omega) only [zl, nS.2.2.1, nS.2.1, nS.2.2.2.1, qc_k hW hk]
    by_cases q : plW (zM z) k v = 0
    · refine bnt (by rw [q, nP_0, nM_e]) (j254 0 ?_)
      rw [nC_f (P := fun v => plW (zM z) k v ≠ 0) (fun h => h q)] at ih'
      exact ih'
    · refine bnf (by rw [nM_e, nP_e (by omega)]; exact q) (j254 1 ?_)
      rw [nC_t (P := fun v => plW (zM z) k v ≠ 0) q] at ih'
      exact ih'
theorem sl_8 (hW : WF (zM z)) {K1 : Int32 → Int32 → Int32 → Int32 → Int32 → Int32 → Int32 → Int32 → Int32 → Prop} {K2 K3 : Int32 → Int32 → Int32 → Int32 → Int32 → Prop} {K4 : Int32 → Prop} (hK : ∀ x, K4 x) : ∀ (r k f : Nat), k + r = 6 → r < f → p_L_lists_8 z (nI (zM z 0)) K1 K2 K3 K4 f (nI k) := by
  intro r
  induction r with
  | zero =>
    intro k f hk hf
    obtain ⟨f, rfl⟩ : ∃ g, f = g + 1 := ⟨f - 1, by omega⟩
    obtain rfl : k = 6 := by omega
    exact brt (by decide) (hK _)
  | succ r ih =>
    intro k f hk hf
    obtain ⟨f, rfl⟩ : ∃ g, f = g + 1 := ⟨f - 1, by omega⟩
    have h10 := hW.2.1 k (by omega)
    have ih' := ih (k + 1) f (by omega) (by omega)
    have h6 : ¬ (6 : Int32) ≤ nI k := by
      simp (disch := omega) only [zl, nS]
      omega
    refine brf h6 (sl_22 hW (by omega) ?_ (zM z (4 + k)) 0 11 (by omega) (by omega))
    refine sl_225 hW (by omega) (fun x => ?_) (zM z 0) 0 17 (by omega) (by have := hW.1; omega)
    have e : sC (zM z) k (zM z 0) (zM z (4 + k)) = nC (fun v => plW (zM z) k v ≠ 0) (zM z 0) := by
      rw [sC_e]
      exact Nat.le_antisymm (nC_mono _ (fun v _ h => h.1)) (nC_mono _ (fun v _ h => ⟨h, plW_le _ _ _⟩))
    rw [e]
    refine bnt rfl (brt ?_ ?_)
    · simp (disch := omega) only [zl, nS]
      omega
    · show p_L_lists_8 z (nI (zM z 0)) K1 K2 K3 K4 f (nI k + nI 1)
      rw [nS.1]
      exact ih'
theorem p_lists_ok (hI : INV z) {Q : Int32 → Prop} (hQ : Q (nI 1)) : p_L_lists z Q := by
  have hW := hI.1
  have w0 : q_whole z (nI 0) = nI (zM z 0) := q_whole_ok (by omega)
  unfold p_L_lists
  simp only [zl, w0]
  exact sl_8 hW (fun _ => hQ) 6 0 7 (by omega) (by omega)
end SL

/-! the place that counts -/
/-- a place or -1; n is the place + 1, or 0 -/
def nP (n : Nat) : Int32 := if n = 0 then nM else nI (n - 1)
theorem nP_0 : nP 0 = nM := rfl
theorem nP_s (n : Nat) : nP (n + 1) = nI n := by unfold nP; rw [if_neg (by omega), Nat.add_sub_cancel]
theorem nP_le {a s : Nat} (ha : a < 1000) (hs : s < 1000) : (nI a ≤ nP s) = (a + 1 ≤ s) := by
  unfold nP
  by_cases q : s = 0
  · rw [if_pos q, nSm.2.2.2.1 a (by omega)]
    exact propext ⟨fun z => z.elim, fun z => by omega⟩
  · rw [if_neg q]
    simp (disch := omega) only [nS]
    exact propext ⟨fun z => by omega, fun z => by omega⟩
theorem nM_le {s : Nat} (hs : s < 1000) : (nM ≤ nP s) = True := by
  unfold nP
  by_cases q : s = 0
  · rw [if_pos q]; exact nSm.2.2.2.2.2.2.2.2.1
  · rw [if_neg q]; exact nSm.2.2.2.2.1 _ (by omega)
/-- the best place of list l for variant v, from entry e on, r entries; p, s: the best so far and its names, each + 1 -/
def pl (M : Nat → Nat) (l v : Nat) : Nat → Nat → Nat → Nat → Nat
  | 0, _, p, _ => p
  | r + 1, e, p, s => if fitE M l e v ∧ s < cnE M l e + 1 then pl M l v r (e + 1) (e + 1) (cnE M l e + 1) else pl M l v r (e + 1) p s
def plW (M : Nat → Nat) (l v : Nat) : Nat := pl M l v (M (4 + l)) 0 0 0
theorem pl_le {M : Nat → Nat} {l v : Nat} : ∀ (r e p s : Nat), p ≤ e → pl M l v r e p s ≤ e + r
  | 0, e, p, s, h => h
  | r + 1, e, p, s, h => by
    unfold pl
    split
    · have := pl_le (M := M) (l := l) (v := v) r (e + 1) (e + 1) (cnE M l e + 1) (Nat.le_refl _); omega
    · have := pl_le (M := M) (l := l) (v := v) r (e + 1) p s (by omega); omega
theorem plW_le (M : Nat → Nat) (l v : Nat) : plW M l v ≤ M (4 + l) := by
  have := pl_le (M := M) (l := l) (v := v) (M (4 + l)) 0 0 0 (Nat.le_refl _)
  unfold plW
  omega
theorem s_placeThatCounts {N l v : Nat} {M : Nat → Nat} {lengths names : Nat → Int32} {keys ranges : Nat → Int64} {Q : Int32 → Prop} (hN : 1000 < N) (hW : WF M) (hL : LN M lengths) (hK : KV M keys) (hR : RA M ranges) (hA : NA M names) (hl : l < 6) (hv : v < M 0) (hq : Q (nP (plW M l v))) : p_X3_placeThatCounts N (nI (M 0)) lengths names keys ranges (nI l) (nI v) Q := by
  have h10 := hW.2.1 l hl
  unfold p_X3_placeThatCounts
  simp (disch := omega) only [zl, nSm]
  have main : ∀ n r e p s, e + r = M (4 + l) → r < n → s < 5 → Q (nP (pl M l v r e p s)) → p_X3_placeThatCounts_8 N (nI l) (nI v) (nI (M 0)) lengths names keys ranges (fun x _ _ => Q x) n (nP p) (nP s) (nI e) := by
    intro n
    induction n with
    | zero => intro r e p s a b; omega
    | succ n ih =>
      intro r e p s he hn hs hq
      unfold p_X3_placeThatCounts_8
      simp (disch := omega) only [zl, nS]
      rw [hL l hl]
      simp (disch := omega) only [nS]
      refine ⟨hl, fun h => ?_, fun h => s_rowOf ?_⟩
      · have : r = 0 := by omega
        subst this
        exact hq
      · obtain ⟨r, rfl⟩ : ∃ r', r = r' + 1 := ⟨r - 1, by omega⟩
        unfold pl at hq
        have hc := cn_le (M (ec l e)) (M (ec l e + 1)) (M (ec l e + 2))
        have hc2 : cnE M l e ≤ 3 := hc
        simp (disch := omega) only [nS]
        rw [hA l hl e (by omega), nP_le (by omega) (by omega)]
        refine ⟨by omega, fun h2 => ?_, fun h2 => s_matches hW hK hR hA hl (by omega) hv (fun f => ⟨fun z => absurd z (by decide), fun _ => ?_⟩) (fun f => ⟨fun _ => ?_, fun z => absurd rfl z⟩)⟩
        · rw [if_neg (fun z => by have z2 : s < cn (M (ec l e)) (M (ec l e + 1)) (M (ec l e + 2)) + 1 := z.2; omega)] at hq
          exact ih r (e + 1) p s (by omega) (by omega) hs hq
        · rw [if_pos ⟨f, show s < cn (M (ec l e)) (M (ec l e + 1)) (M (ec l e + 2)) + 1 by omega⟩] at hq
          have := ih r (e + 1) (e + 1) (cnE M l e + 1) (by omega) (by omega) (by omega) hq
          rw [nP_s, nP_s] at this
          exact this
        · rw [if_neg (fun z => f z.1)] at hq
          exact ih r (e + 1) p s (by omega) (by omega) hs hq
  exact main N (M (4 + l)) 0 0 0 (by omega) (by omega) (by omega) hq
/-! the reference's -/
theorem WF_e {M : Nat → Nat} (hW : WF M) {l e : Nat} (hl : l < 6) (he : e < M (4 + l)) : ∀ i, i < 4 → M (ec l e + i) < 2147483648 := by
  obtain ⟨⟨a0, a1, a2, _⟩, b⟩ := hW.2.2.2.2 l hl e he
  have l1 := okN_lt a0; have l2 := okN_lt a1; have l3 := okN_lt a2
  intro i hi
  rcases (show i = 0 ∨ i = 1 ∨ i = 2 ∨ i = 3 by omega) with rfl | rfl | rfl | rfl <;> (try rw [Nat.add_zero]) <;> omega

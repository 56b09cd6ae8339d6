/-! the place that counts -/
/-- a place or -1; n is the place + 1, or 0 -/
def nP (n : Nat) : Int32 := if n = 0 then nM else nI (n - 1)
theorem nP_0 : nP 0 = nM := rfl
theorem nP_s (n : Nat) : nP (n + 1) = nI n := by unfold nP; rw [if_neg (by omega), Nat.add_sub_cancel]
theorem nP_le {a s : Nat} (ha : a < 1000) (hs : s < 1000) : (nI a ≤ nP s) = (a + 1 ≤ s) := by
  unfold nP
  by_cases q : s = 0
  · rw [if_pos q, nSm.2.2.2.1 a (by omega)]
    exact propext ⟨fun z => z.elim, fun z => by omega⟩
  · rw [if_neg q]
    simp (disch := omega) only [nS]
    exact propext ⟨fun z => by omega, fun z => by omega⟩
theorem nM_le {s : Nat} (hs : s < 1000) : (nM ≤ nP s) = True := by
  unfold nP
  by_cases q : s = 0
  · rw [if_pos q]; exact nSm.2.2.2.2.2.2.2.2.1
  · rw [if_neg q]; exact nSm.2.2.2.2.1 _ (by omega)
/-- the best place of list l for variant v, from entry e on, r entries; p, s: the best so far and its names, each + 1 -/
def pl (M : Nat → Nat) (l v : Nat) : Nat → Nat → Nat → Nat → Nat
  | 0, _, p, _ => p
  | r + 1, e, p, s => if fitE M l e v ∧ s < cnE M l e + 1 then pl M l v r (e + 1) (e + 1) (cnE M l e + 1) else pl M l v r (e + 1) p s
def plW (M : Nat → Nat) (l v : Nat) : Nat := pl M l v (M (4 + l)) 0 0 0
theorem pl_le {M : Nat → Nat} {l v : Nat} : ∀ (r e p s : Nat), p ≤ e → pl M l v r e p s ≤ e + r
  | 0, e, p, s, h => h
  | r + 1, e, p, s, h => by
    unfold pl
    split
    · have := pl_le (M := M) (l := l) (v := v) r (e + 1) (e + 1) (cnE M l e + 1) (Nat.le_refl _); omega
    · have := pl_le (M := M) (l := l) (v := v) r (e + 1) p s (by omega); omega
theorem plW_le (M : Nat → Nat) (l v : Nat) : plW M l v ≤ M (4 + l) := by
  have := pl_le (M := M) (l := l) (v := v) (M (4 + l)) 0 0 0 (Nat.le_refl _)
  unfold plW
  omega
theorem s_placeThatCounts {N l v : Nat} {M : Nat → Nat} {lengths names : Nat → Int32} {keys ranges : Nat → Int64} {Q : Int32 → Prop} (hN : 1000 < N) (hW : WF M) (hL : LN M lengths) (hK : KV M keys) (hR : RA M ranges) (hA : NA M names) (hl : l < 6) (hv : v < M 0) (hq : Q (nP (plW M l v))) : p_X3_placeThatCounts N (nI (M 0)) lengths names keys ranges (nI l) (nI v) Q := by
  have h10 := hW.2.1 l hl
  unfold p_X3_placeThatCounts
  simp (disch := omega) only [zl, nSm]
  have main : ∀ n r e p s, e + r = M (4 + l) → r < n → s < 5 → Q (nP (pl M l v r e p s)) → p_X3_placeThatCounts_8 N (nI l) (nI v) (nI (M 0)) lengths names keys ranges (fun x _ _ => Q x) n (nP p) (nP s) (nI e) := by
    intro n
    induction n with
    | zero => intro r e p s a b; omega
    | succ n ih =>
      intro r e p s he hn hs hq
      unfold p_X3_placeThatCounts_8
      simp (disch := omega) only [zl, nS]
      rw [hL l hl]
      simp (disch := omega) only [nS]
      refine ⟨hl, fun h => ?_, fun h => s_rowOf ?_⟩
      · have : r = 0 := by omega
        subst this
        exact hq
      · obtain ⟨r, rfl⟩ : ∃ r', r = r' + 1 := ⟨r - 1, by omega⟩
        unfold pl at hq
        have hc := cn_le (M (ec l e)) (M (ec l e + 1)) (M (ec l e + 2))
        have hc2 : cnE M l e ≤ 3 := hc
        simp (disch := omega) only [nS]
        rw [hA l hl e (by omega), nP_le (by omega) (by omega)]
        refine ⟨by omega, fun h2 => ?_, fun h2 => s_matches hW hK hR hA hl (by omega) hv (fun f => ⟨fun z => absurd z (by decide), fun _ => ?_⟩) (fun f => ⟨fun _ => ?_, fun z => absurd rfl z⟩)⟩
        · rw [if_neg (fun z => by have z2 : s < cn (M (ec l e)) (M (ec l e + 1)) (M (ec l e + 2)) + 1 := z.2; omega)] at hq
          exact ih r (e + 1) p s (by omega) (by omega) hs hq
        · rw [if_pos ⟨f, show s < cn (M (ec l e)) (M (ec l e + 1)) (M (ec l e + 2)) + 1 by omega⟩] at hq
          have := ih r (e + 1) (e + 1) (cnE M l e + 1) (by omega) (by omega) (by omega) hq
          rw [nP_s, nP_s] at this
          exact this
        · rw [if_neg (fun z => f z.1)] at hq
          exact ih r (e + 1) p s (by omega) (by omega) hs hq
  exact main N (M (4 + l)) 0 0 0 (by omega) (by omega) (by omega) hq
/-! the reference's -/
theorem WF_e {M : Nat → Nat} (hW : WF M) {l e : Nat} (hl : l < 6) (he : e < M (4 + l)) : ∀ i, i < 4 → M (ec l e + i) < 2147483648 := by
  obtain ⟨⟨a0, a1, a2, _⟩, b⟩ := hW.2.2.2.2 l hl e he
  have l1 := okN_lt a0; have l2 := okN_lt a1; have l3 := okN_lt a2
  intro i hi
  rcases (show i = 0 ∨ i = 1 ∨ i = 2 ∨ i = 3 by omega) with rfl | rfl | rfl | rfl <;> (try rw [Nat.add_zero]) <;> omega
theorem s_specific_27 {N l e v k : Nat} {M : Nat → Nat} {x4 c0 c1 c2 c3 c4 c5 c6 c7 : Int32} {c8 : Int64} {m : Nat → Int32} {Q : Int32 → Prop} (hN : 1000 < N) (hW : WF M) (hm : RM M m) (hl : l < 6) (he : e < M (4 + l)) (hv : v < M 0) (hk : k = l % 3) (hx : x4 = nI (vo k)) (hq : Q (if fitE M l e v then nI (cnE M l e) else nM)) : p_X6_specific_27 N (nI l) (nI e) (nI v) x4 c0 c1 c2 c3 c4 c5 c6 c7 c8 m (fun _ => Q nM) (fun x => Q x) N (nI 0) := by
  have h16 := hW.1
  have h10 := hW.2.1 l hl
  have hE := WF_e hW hl he
  have hV := WF_lt hW hv
  obtain ⟨o0, o1, o2, z0, z1, z2, z3⟩ := (hW.2.2.2.2 l hl e he).1
  have b0 : M (ec l e) < 2147483648 := hE 0 (by decide)
  have b1 := hE 1 (by decide)
  have b2 := hE 2 (by decide)
  have ov : k = 0 ∧ vo k = 0 ∨ k = 1 ∧ vo k = 2 ∨ k = 2 ∧ vo k = 5 := by
    have : k < 3 := by omega
    rcases (show k = 0 ∨ k = 1 ∨ k = 2 by omega) with rfl | rfl | rfl
    · exact Or.inl ⟨rfl, rfl⟩
    · exact Or.inr (Or.inl ⟨rfl, rfl⟩)
    · exact Or.inr (Or.inr ⟨rfl, rfl⟩)
  have av : ∀ i, vo k + i < 8 → ∀ {Q : Int32 → Prop}, Q (nI (vc M v k i)) → p_X6_of N c0 c1 c2 c3 c4 c5 c6 c7 c8 m (nI v) (nI (vo k + i)) Q := fun i hi Q hq => s_of hm (by omega) hi (by
    rw [← Nat.add_assoc]; exact hq)
  have bv : ∀ i, vo k + i < 8 → vc M v k i < 2147483648 := fun i hi => by have := hV (vo k + i) hi; rw [← Nat.add_assoc] at this; exact this
  subst hx
  subst hk
  obtain ⟨n, hNn⟩ : ∃ n, N = n + 1 + 1 + 1 + 1 := ⟨N - 4, by omega⟩
  suffices hh : ∀ (f : Nat), f = n + 1 + 1 + 1 + 1 → p_X6_specific_27 N (nI l) (nI e) (nI v) (nI (vo (l % 3))) c0 c1 c2 c3 c4 c5 c6 c7 c8 m (fun _ => Q nM) (fun x => Q x) f (nI 0) from hh N hNn
  intro f hf
  subst hf
  unfold p_X6_specific_27
  simp (disch := omega) only [zl, nS]
  refine ⟨fun h => absurd h (by omega), fun _ => s_ofEntry (i := 0) hm hl (by omega) (by decide) ?_⟩
  rw [Nat.add_zero]
  simp (disch := omega) only [nS]
  refine ⟨fun h => ?_, fun h => s_ofEntry (i := 0) hm hl (by omega) (by decide) (av 0 (by omega) ?_)⟩
  · have h1 := z0 h
    have h2 := z1 h1
    rw [if_pos ⟨fun z => absurd h z, fun z => absurd h1 z, fun z => absurd h2 z⟩] at hq
    have e0 : cnE M l e = 0 := by show cn _ _ _ = 0; unfold cn; rw [if_pos h]
    rw [e0] at hq
    exact hq
  rw [Nat.add_zero]
  have v0 := bv 0 (by omega)
  simp (disch := omega) only [nS]
  refine ⟨fun g0 => ?_, fun g0 => by rw [if_neg (fun z => g0 (z.1 h))] at hq; exact hq⟩
  unfold p_X6_specific_27
  simp (disch := omega) only [zl, nS]
  refine ⟨fun h => absurd h (by omega), fun _ => s_ofEntry (i := 1) hm hl (by omega) (by decide) ?_⟩
  simp (disch := omega) only [nS]
  refine ⟨fun h1 => ?_, fun h1 => ?_⟩
  · have h2 := z1 h1
    rw [if_pos ⟨fun _ => g0, fun z => absurd h1 z, fun z => absurd h2 z⟩] at hq
    have e0 : cnE M l e = 1 := by show cn _ _ _ = 1; unfold cn; rw [if_neg h, if_pos h1]
    rw [e0] at hq
    exact hq
  have k2 : l % 3 ≠ 2 := fun z => h1 (z3 z)
  refine s_ofEntry (i := 1) hm hl (by omega) (by decide) (av 1 (by omega) ?_)
  have v1 := bv 1 (by omega)
  simp (disch := omega) only [nS]
  refine ⟨fun g1 => ?_, fun g1 => by rw [if_neg (fun z => g1 (z.2.1 h1))] at hq; exact hq⟩
  unfold p_X6_specific_27
  simp (disch := omega) only [zl, nS]
  refine ⟨fun h => absurd h (by omega), fun _ => s_ofEntry (i := 2) hm hl (by omega) (by decide) ?_⟩
  simp (disch := omega) only [nS]
  refine ⟨fun h2 => ?_, fun h2 => ?_⟩
  · rw [if_pos ⟨fun _ => g0, fun _ => g1, fun z => absurd h2 z⟩] at hq
    have e0 : cnE M l e = 2 := by show cn _ _ _ = 2; unfold cn; rw [if_neg h, if_neg h1, if_pos h2]
    rw [e0] at hq
    exact hq
  have k0 : l % 3 ≠ 0 := fun z => h2 (z2 z)
  refine s_ofEntry (i := 2) hm hl (by omega) (by decide) (av 2 (by omega) ?_)
  have v2 := bv 2 (by omega)
  simp (disch := omega) only [nS]
  refine ⟨fun g2 => ?_, fun g2 => by rw [if_neg (fun z => g2 (z.2.2 h2))] at hq; exact hq⟩
  unfold p_X6_specific_27
  simp (disch := omega) only [zl, nS]
  refine ⟨fun _ => ?_, fun h => absurd (by omega) h⟩
  rw [if_pos ⟨fun _ => g0, fun _ => g1, fun _ => g2⟩] at hq
  have e0 : cnE M l e = 3 := by show cn _ _ _ = 3; unfold cn; rw [if_neg h, if_neg h1, if_neg h2]
  rw [e0] at hq
  exact hq
theorem s_specific {N l e v : Nat} {M : Nat → Nat} {c0 c1 c2 c3 c4 c5 c6 c7 : Int32} {c8 : Int64} {m : Nat → Int32} {Q : Int32 → Prop} (hN : 1000 < N) (hW : WF M) (hm : RM M m) (hl : l < 6) (he : e < M (4 + l)) (hv : v < M 0) (hq : Q (if fitE M l e v then nI (cnE M l e) else nM)) : p_X6_specific N c0 c1 c2 c3 c4 c5 c6 c7 c8 m (nI l) (nI e) (nI v) Q := by
  unfold p_X6_specific
  simp (disch := omega) only [zl, nS, nSm, lmod3]
  exact ⟨fun h => ⟨fun h2 => s_specific_27 (k := 2) hN hW hm hl he hv (by omega) rfl hq, fun h2 => s_specific_27 (k := 1) hN hW hm hl he hv (by omega) rfl hq⟩, fun h => s_specific_27 (k := 0) hN hW hm hl he hv (by omega) rfl hq⟩
theorem s_countingIn {N l v : Nat} {M : Nat → Nat} {c0 c1 c2 c3 c4 c5 c6 c7 : Int32} {c8 : Int64} {m : Nat → Int32} {Q : Int32 → Prop} (hN : 1000 < N) (hW : WF M) (hm : RM M m) (hl : l < 6) (hv : v < M 0) (hq : Q (nP (plW M l v))) : p_X6_countingIn N c0 c1 c2 c3 c4 c5 c6 c7 c8 m (nI l) (nI v) Q := by
  have h10 := hW.2.1 l hl
  unfold p_X6_countingIn
  simp (disch := omega) only [zl, nSm]
  have main : ∀ n r e p s, e + r = M (4 + l) → r < n → s < 5 → Q (nP (pl M l v r e p s)) → p_X6_countingIn_8 N (nI l) (nI v) c0 c1 c2 c3 c4 c5 c6 c7 c8 m (fun x _ _ => Q x) n (nP p) (nP s) (nI e) := by
    intro n
    induction n with
    | zero => intro r e p s a b; omega
    | succ n ih =>
      intro r e p s he hn hs hq
      unfold p_X6_countingIn_8
      simp (disch := omega) only [zl, nS]
      rw [hm (4 + l) (by omega)]
      simp (disch := omega) only [nS]
      refine ⟨by omega, fun h => ?_, fun h => s_specific hN hW hm hl (by omega) hv ?_⟩
      · have : r = 0 := by omega
        subst this
        exact hq
      · obtain ⟨r, rfl⟩ : ∃ r', r = r' + 1 := ⟨r - 1, by omega⟩
        unfold pl at hq
        have hc : cnE M l e ≤ 3 := cn_le (M (ec l e)) (M (ec l e + 1)) (M (ec l e + 2))
        by_cases f : fitE M l e v
        · rw [if_pos f, nP_le (by omega) (by omega)]
          refine ⟨fun h2 => ⟨fun _ => ?_, fun z => absurd h2 z⟩, fun h2 => ⟨fun z => absurd z h2, fun _ => ?_⟩⟩
          · rw [if_neg (fun z => by have z2 := z.2; omega)] at hq
            exact ih r (e + 1) p s (by omega) (by omega) hs hq
          · rw [if_pos ⟨f, by omega⟩] at hq
            have := ih r (e + 1) (e + 1) (cnE M l e + 1) (by omega) (by omega) (by omega) hq
            rw [nP_s, nP_s] at this
            exact this
        · rw [if_neg f, nM_le (by omega)]
          rw [if_neg (fun z => f z.1)] at hq
          exact ⟨fun _ => ⟨fun _ => ih r (e + 1) p s (by omega) (by omega) hs hq, fun z => absurd trivial z⟩, fun z => absurd trivial z⟩
  exact main N (M (4 + l)) 0 0 0 (by omega) (by omega) (by omega) hq

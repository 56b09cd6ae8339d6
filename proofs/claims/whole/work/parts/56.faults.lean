/-! faults and clearing: what is left of the texts -/
theorem s_R_listFault {N tn : Nat} {b : Nat → Nat} {c0 c2 c3 c4 c5 c6 c7 x1 : Int32} {c8 : Int64} {rd : Nat → Int32} {Q : Int32 → Int32 → Int32 → Int32 → (Nat → Int32) → Prop} (hN : 1000 < N) (hb : ∀ j, b j < 128) (htn : tn ≤ 120)
    (hbad : (∀ l, l < 3 → x1 ≠ nI l) → Q (nI 0) (nI 1) c3 c4 rd) (hok : ∀ l, l < 3 → x1 = nI l → ∀ p u rd', Q (fault (lsW b tn l)) (nI 0) p u rd') : p_X6_listFault N c0 (nI tn) c2 c3 c4 c5 c6 c7 c8 rd (tB b) x1 Q := by
  unfold p_X6_listFault
  simp (disch := omega) only [zl, nSm]
  refine s_in0 (by decide) (fun l hl e => ⟨fun z => absurd z (by decide), fun _ => ?_⟩) (fun e => ⟨fun _ => hbad (fun l hl => e l (by omega)), fun z => absurd rfl z⟩)
  subst e
  have hl : l < 3 := by omega
  obtain ⟨o1, o2, o3⟩ := lsW_out (b := b) (tn := tn) hl
  have hk := hok l hl rfl
  unfold fault at hk
  refine s_readList6 hN hb htn hl (fun u rd' hr => ?_)
  rcases o1 with o1 | o1
  · rw [if_neg (by omega)] at hk
    rw [if_neg (by omega)]
    exact ⟨fun z => absurd rfl z, fun _ => hk _ _ _⟩
  · obtain ⟨o4, o5⟩ := o3 o1
    rw [if_pos o1] at hk
    rw [if_pos o1, nSm.2.1 _ (by omega)]
    exact ⟨fun _ => hk _ _ _, fun z => z.elim⟩
theorem s_R_variantFault {N tn : Nat} {b : Nat → Nat} {c0 c2 c3 c4 c5 c6 c7 : Int32} {c8 : Int64} {rd : Nat → Int32} {Q : Int32 → Int32 → Int32 → Int32 → (Nat → Int32) → Prop} (hN : 1000 < N) (hb : ∀ j, b j < 128) (htn : tn ≤ 120)
    (hok : ∀ p u rd', Q (faultV (vsW b tn)) (nI 0) p u rd') : p_X6_variantFault N c0 (nI tn) c2 c3 c4 c5 c6 c7 c8 rd (tB b) Q := by
  unfold p_X6_variantFault
  simp (disch := omega) only [zl, nSm]
  obtain ⟨o1, o2, o3⟩ := vsW_out (b := b) (tn := tn)
  unfold faultV at hok
  refine s_readVariant6 hN hb htn (fun u rd' hr => ?_)
  rw [(nz1 o1).1]
  rcases o1 with o1 | o1
  · rw [if_neg (by omega)] at hok
    exact ⟨fun _ => hok _ _ _, fun z => absurd o1 z⟩
  · rw [if_pos o1] at hok
    exact ⟨fun z => absurd z (by omega), fun _ => hok _ _ _⟩
theorem s_variantFault5 {N tn : Nat} {b : Nat → Nat} {c0 c1 c2 c3 c4 c5' c6 : Int32} {k : Int64} {keys : Nat → Int64} {Q : Int32 → Int32 → Int32 → Int64 → Int32 → Int32 → (Nat → Int64) → Prop} (hN : 1000 < N) (hb : ∀ j, b j < 128) (htn : tn ≤ 120)
    (hok : ∀ p u k m sz keys', Q (faultV (vsW b tn)) p u k m sz keys') : p_X5_variantFault N c0 c1 c2 c3 k c4 c5' c6 (nI tn) (tB b) keys Q := by
  unfold p_X5_variantFault
  exact s_readVariant1 hN hb htn (fun p u k m sz keys' _ => hok p u k m sz keys')

/-! faults and clearing: what is left of the texts -/
theorem s_variantFault5 {N tn : Nat} {b : Nat → Nat} {c0 c1 c2 c3 c4 c5' c6 : Int32} {k : Int64} {keys : Nat → Int64} {Q : Int32 → Int32 → Int32 → Int64 → Int32 → Int32 → (Nat → Int64) → Prop} (hN : 1000 < N) (hb : ∀ j, b j < 128) (htn : tn ≤ 120)
    (hok : ∀ p u k m sz keys', Q (faultV (vsW b tn)) p u k m sz keys') : p_X5_variantFault N c0 c1 c2 c3 k c4 c5' c6 (nI tn) (tB b) keys Q := by
  unfold p_X5_variantFault
  exact s_readVariant1 hN hb htn (fun p u k m sz keys' _ => hok p u k m sz keys')


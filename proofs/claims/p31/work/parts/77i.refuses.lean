/-! what is refused changes nothing -/
theorem neg1 {v : Nat} (hv : v < 2147483648) : (-1 : Int32) ≠ nI v := (i32_n (x := -1) (by decide)).2.1 v hv
theorem lgc (x : Int64) : lg_cmp x x = (0 : Int32) := of_eq_true (lg_self x)
section RF
variable {z z' : DS} {r x1 x2 x3 x4 : Int32}
theorem rf_take (h : ¬ isL x1 x2) (hS : S_takeList z x1 x2 r z') : r = (-90300) ∧ z' = z := by
  rcases hS with ⟨-, a, b⟩ | ⟨s, l, h1, h2, h3, h4, -⟩ | ⟨s, l, h1, h2, h3, h4, -⟩
  · exact ⟨a, b⟩
  · exact absurd ⟨s, l, h1, h2, h3, h4⟩ h
  · exact absurd ⟨s, l, h1, h2, h3, h4⟩ h
theorem rf_type (hS : S_type z (128 : Int32) r z') : r = (-90100) ∧ z' = z := by
  rcases hS with ⟨-, a, b⟩ | ⟨v, h1, h2, -⟩ | ⟨v, h1, h2, -⟩
  · exact ⟨a, b⟩
  · have := nI_u (a := 128) h2 (by omega) (by omega); omega
  · have := nI_u (a := 128) h2 (by omega) (by omega); omega
theorem rf_rem (h : ∀ v, v < zM z 0 → x1 ≠ nI v) (hS : S_removeVariant z x1 r z') : r = (-90300) ∧ z' = z := by
  rcases hS with ⟨-, a, b⟩ | ⟨v, h1, h2, -⟩
  · exact ⟨a, b⟩
  · exact absurd h2 (h v h1)
theorem rf_setQ (h : ∀ v, v < zM z 0 → x1 ≠ nI v) (hS : S_setQuality z x1 x2 r z') : r = (-90300) ∧ z' = z := by
  rcases hS with ⟨-, a, b⟩ | ⟨v, h1, h2, -⟩ | ⟨v, x, h1, h2, -⟩
  · exact ⟨a, b⟩
  · exact absurd h2 (h v h1)
  · exact absurd h2 (h v h1)
theorem rf_setS (h : ∀ v, v < zM z 0 → x1 ≠ nI v) (hS : S_setSize z x1 x2 r z') : r = (-90300) ∧ z' = z := by
  rcases hS with ⟨-, a, b⟩ | ⟨v, h1, h2, -⟩ | ⟨v, x, h1, h2, -⟩
  · exact ⟨a, b⟩
  · exact absurd h2 (h v h1)
  · exact absurd h2 (h v h1)
theorem rf_setW (h : ∀ l e, ¬ isE (zM z) x1 x2 x3 l e) (hS : S_setWeight z x1 x2 x3 x4 r z') : r = (-90300) ∧ z' = z := by
  rcases hS with ⟨-, a, b⟩ | ⟨l, e, h1, -⟩ | ⟨l, e, x, h1, -⟩
  · exact ⟨a, b⟩
  · exact absurd h1 (h l e)
  · exact absurd h1 (h l e)
theorem rf_remE (h : ∀ l e, ¬ isE (zM z) x1 x2 x3 l e) (hS : S_removeEntry z x1 x2 x3 r z') : r = (-90300) ∧ z' = z := by
  rcases hS with ⟨-, a, b⟩ | ⟨l, e, h1, -⟩
  · exact ⟨a, b⟩
  · exact absurd h1 (h l e)
theorem rf_ties (h : ∀ a b d, a ≤ 5 → b ≤ 5 → d ≤ 5 → ¬ (x1 = nI a ∧ x2 = nI b ∧ x3 = nI d)) (hS : S_setTies z x1 x2 x3 r z') : r = (-90100) ∧ z' = z := by
  rcases hS with ⟨-, a, b⟩ | ⟨a, b, d, h1, h2, h3, h4, h5, h6, -⟩
  · exact ⟨a, b⟩
  · exact absurd ⟨h4, h5, h6⟩ (h a b d h1 h2 h3)
theorem p_refuses_ok (hI : INV z) {Q : Int32 → DS → Prop} (k : INV z → Q (nI 1) z) : p_L_refuses z Q := by
  have hW := hI.1
  have h16 := hW.1
  have w0 : q_whole z (nI 0) = nI (zM z 0) := q_whole_ok (by omega)
  have hv : ∀ v, v < zM z 0 → nI (zM z 0) ≠ nI v := fun v hv e => by have := nI_u e (by omega) (by omega); omega
  have hn : ∀ v, v < zM z 0 → (-1 : Int32) ≠ nI v := fun v hv => neg1 (by omega)
  have hE10 : ∀ l e, ¬ isE (zM z) (0 : Int32) (0 : Int32) (10 : Int32) l e := fun l e ⟨h1, h2, s, j, h3, h4, h5, h6, h7, h8⟩ => by
    have := hW.2.1 l h1
    have := nI_u (a := 10) h8 (by omega) (by omega)
    omega
  have hEn : ∀ l e, ¬ isE (zM z) (-1 : Int32) (0 : Int32) (0 : Int32) l e := fun l e ⟨h1, h2, s, j, h3, h4, h5, h6, h7, h8⟩ => neg1 (v := s) (by omega) h6
  have hE3 : ∀ l e, ¬ isE (zM z) (0 : Int32) (3 : Int32) (0 : Int32) l e := fun l e ⟨h1, h2, s, j, h3, h4, h5, h6, h7, h8⟩ => by
    have := nI_u (a := 3) h7 (by omega) (by omega)
    omega
  have hp : ∀ p, p < 2147483648 → (-1 : Int32) ≠ nI p := fun p hp => neg1 hp
  have j308 : p_L_refuses_j308 Q z z (1 : Int32) := by
    unfold p_L_refuses_j308
    exact brf (by decide) (bnt (lgc _) (k hI))
  have j160 : p_L_refuses_j160 Q z (1 : Int32) z := by
    unfold p_L_refuses_j160
    rw [show (q_whole z (0 : Int32)) = nI (zM z 0) from w0]
    refine brf (by decide) (bnt (q_variant_no hv) (bnt (q_weight_no2 hv) (bnt (q_counting_no2 hv) (bnt (q_entry_no hE10) (bnt (q_ranked_no hp) (bnt (q_whole_no ?_) (bnt (q_listed_no hp) (bnt (q_listingByte_no hp) (bnt (q_servedFor_no (fun s hs => neg1 (by omega))) (bnt (q_servedWithout_no hv) (bnt (q_leastWeight_no hE10) (bnt (q_leastQuality_no hn) j308))))))))))))
    intro w hw e
    have := nI_u (a := 11) e (by omega) (by omega)
    omega
  unfold p_L_refuses
  rw [show (q_whole z (0 : Int32)) = nI (zM z 0) from w0]
  intro r z2 hS _
  obtain ⟨rfl, rfl⟩ := rf_type hS
  refine bnt rfl (bnt (q_listFault_no (fun l hl e => by have := nI_u (a := 3) e (by omega) (by omega); omega)) ?_)
  intro r z3 hS _
  obtain ⟨rfl, rfl⟩ := rf_take (fun ⟨s, l, h1, h2, h3, h4⟩ => by have := nI_u (a := 2) h3 (by omega) (by omega); omega) hS
  refine bnt rfl ?_
  intro r z4 hS _
  obtain ⟨rfl, rfl⟩ := rf_take (fun ⟨s, l, h1, h2, h3, h4⟩ => neg1 (v := l) (by omega) h4) hS
  refine bnt rfl ?_
  intro r z5 hS _
  obtain ⟨rfl, rfl⟩ := rf_rem hv hS
  refine bnt rfl ?_
  intro r z6 hS _
  obtain ⟨rfl, rfl⟩ := rf_setQ hv hS
  refine bnt rfl ?_
  intro r z7 hS _
  obtain ⟨rfl, rfl⟩ := rf_setS hn hS
  refine bnt rfl ?_
  intro r z8 hS _
  obtain ⟨rfl, rfl⟩ := rf_setW hE10 hS
  refine bnt rfl ?_
  intro r z9 hS _
  obtain ⟨rfl, rfl⟩ := rf_setW hEn hS
  refine bnt rfl ?_
  intro r z10 hS _
  obtain ⟨rfl, rfl⟩ := rf_remE hE3 hS
  refine bnt rfl ?_
  intro r z11 hS _
  obtain ⟨rfl, rfl⟩ := rf_ties (fun a b d h1 h2 h3 ⟨h4, h5, h6⟩ => by have := nI_u (a := 6) h5 (by omega) (by omega); omega) hS
  refine bnt rfl ?_
  intro r z12 hS _
  obtain ⟨rfl, rfl⟩ := rf_ties (fun a b d h1 h2 h3 ⟨h4, h5, h6⟩ => neg1 (v := a) (by omega) h4) hS
  exact bnt rfl j160
end RF

/-! the calls that change the state: the reference -/
section RO
variable {N c : Nat} {SV : Nat → Nat → Nat} {M : Nat → Nat} {c1 c2 c3 c4 c5 c6 c7 : Int32} {c8 : Int64} {m s0 : Nat → Int32}
theorem s_R_removeVariant {x1 : Int32} {Q : Int32 → Int32 → Int32 → (Nat → Int32) → (Nat → Int32) → Prop} (hN : 2000 < N) (hc : c ≤ 4) (hW : WF M) (hm : RM M m) (hk : KS c SV s0) (hbad : (∀ v, v < M 0 → x1 ≠ nI v) → Q (nI 0) (nI c) (nI 1) m s0)
    (hok : ∀ v, v < M 0 → x1 = nI v → ∀ m' s', RM (remV M v) m' → KS (cx c) (nx c SV M) s' → Q (nI (M 0 - 1)) (nI (cx c)) (nI 0) m' s') : p_X6_removeVariant N (nI c) c1 c2 c3 c4 c5 c6 c7 c8 m s0 x1 Q := by
  have h16 := hW.1
  unfold p_X6_removeVariant
  simp (disch := omega) only [zl, nS]
  refine s_isVariant6 hm hW (fun v hv e => ⟨fun z => absurd z (by decide), fun _ => ?_⟩) (fun e => ⟨fun _ => hbad e, fun z => absurd rfl z⟩)
  subst e
  refine s_keepS hN hc hm hk (fun s hs => ?_)
  rw [hm 0 (by decide)]
  simp (disch := omega) only [nS]
  refine s_removeVariant_48 (m0 := upd m 0 (nI (M 0 - 1))) (vn := M 0 - 1) (x := 10 + 8 * v) (by omega) (if_pos rfl) (by omega) (fun y m' hm' => ?_) N _ _ (Nat.le_refl _) (by omega) (by omega) (SH_0 _ _ _)
  have e0 : m' 0 = nI (M 0 - 1) := by rw [hm' 0, if_neg (by omega)]; exact if_pos rfl
  rw [e0]
  exact hok v hv rfl m' s (remV_RM hm h16 hv hm') hs
theorem s_put {i x : Nat} {Q : Int32 → Int32 → (Nat → Int32) → (Nat → Int32) → Prop} (hN : 2000 < N) (hc : c ≤ 4) (hm : RM M m) (hk : KS c SV s0) (hi : i < 378) (hq : ∀ s', KS (cx c) (nx c SV M) s' → Q (nI (M i)) (nI (cx c)) (upd m i (nI x)) s') : p_X6_put N (nI c) c1 c2 c3 c4 c5 c6 c7 c8 m s0 (nI i) (nI x) Q := by
  unfold p_X6_put
  refine s_keepS hN hc hm hk (fun s hs => ?_)
  simp (disch := omega) only [nS]
  rw [hm i hi]
  exact ⟨hi, hi, hq s hs⟩
theorem s_R_setQuality {x1 x2 : Int32} {Q : Int32 → Int32 → Int32 → (Nat → Int32) → (Nat → Int32) → Prop} (hN : 2000 < N) (hc : c ≤ 4) (hW : WF M) (hm : RM M m) (hk : KS c SV s0) (hbad : (∀ v, v < M 0 → x1 ≠ nI v) → Q (nI 0) (nI c) (nI 1) m s0)
    (hbad2 : ∀ v, v < M 0 → x1 = nI v → (∀ x, x ≤ 1000 → x2 ≠ nI x) → Q (nI 0) (nI c) (nI 2) m s0)
    (hok : ∀ v x, v < M 0 → x1 = nI v → x ≤ 1000 → x2 = nI x → ∀ s', KS (cx c) (nx c SV M) s' → Q (nI (M (10 + 8 * v + 7))) (nI (cx c)) (nI 0) (upd m (10 + 8 * v + 7) (nI x)) s') : p_X6_setQuality N (nI c) c1 c2 c3 c4 c5 c6 c7 c8 m s0 x1 x2 Q := by
  have h16 := hW.1
  unfold p_X6_setQuality
  simp (disch := omega) only [zl, nS]
  refine s_isVariant6 hm hW (fun v hv e => ⟨fun _ => ?_, fun z => absurd z (by decide)⟩) (fun e => ⟨fun z => absurd rfl z, fun _ => hbad e⟩)
  refine s_in0 (by decide) (fun x hx e2 => ⟨fun z => absurd z (by decide), fun _ => ?_⟩) (fun e2 => ⟨fun _ => hbad2 v hv e e2, fun z => absurd rfl z⟩)
  subst e
  subst e2
  simp (disch := omega) only [nS]
  exact s_put hN hc hm hk (by omega) (fun s hs => hok v x hv rfl hx rfl s hs)
theorem s_R_setSize {x1 x2 : Int32} {Q : Int32 → Int32 → Int32 → (Nat → Int32) → (Nat → Int32) → Prop} (hN : 2000 < N) (hc : c ≤ 4) (hW : WF M) (hm : RM M m) (hk : KS c SV s0) (hbad : (∀ v, v < M 0 → x1 ≠ nI v) → Q (nI 0) (nI c) (nI 1) m s0)
    (hbad2 : ∀ v, v < M 0 → x1 = nI v → (∀ x, x ≤ 999999 → x2 ≠ nI x) → Q (nI 0) (nI c) (nI 2) m s0)
    (hok : ∀ v x, v < M 0 → x1 = nI v → x ≤ 999999 → x2 = nI x → ∀ s', KS (cx c) (nx c SV M) s' → Q (nI (M (10 + 8 * v + 6))) (nI (cx c)) (nI 0) (upd m (10 + 8 * v + 6) (nI x)) s') : p_X6_setSize N (nI c) c1 c2 c3 c4 c5 c6 c7 c8 m s0 x1 x2 Q := by
  have h16 := hW.1
  unfold p_X6_setSize
  simp (disch := omega) only [zl, nS]
  refine s_isVariant6 hm hW (fun v hv e => ⟨fun _ => ?_, fun z => absurd z (by decide)⟩) (fun e => ⟨fun z => absurd rfl z, fun _ => hbad e⟩)
  refine s_in0 (by decide) (fun x hx e2 => ⟨fun z => absurd z (by decide), fun _ => ?_⟩) (fun e2 => ⟨fun _ => hbad2 v hv e e2, fun z => absurd rfl z⟩)
  subst e
  subst e2
  simp (disch := omega) only [nS]
  exact s_put hN hc hm hk (by omega) (fun s hs => hok v x hv rfl hx rfl s hs)
theorem s_R_setWeight {x1 x2 x3 x4 : Int32} {Q : Int32 → Int32 → Int32 → (Nat → Int32) → (Nat → Int32) → Prop} (hN : 2000 < N) (hc : c ≤ 4) (hW : WF M) (hm : RM M m) (hk : KS c SV s0) (hbad : (∀ l e, ¬ isE M x1 x2 x3 l e) → Q (nI 0) (nI c) (nI 1) m s0)
    (hbad2 : ∀ l e, isE M x1 x2 x3 l e → (∀ x, x ≤ 1000 → x4 ≠ nI x) → Q (nI 0) (nI c) (nI 2) m s0)
    (hok : ∀ l e x, isE M x1 x2 x3 l e → x ≤ 1000 → x4 = nI x → ∀ s', KS (cx c) (nx c SV M) s' → Q (nI (M (ec l e + 3))) (nI (cx c)) (nI 0) (upd m (ec l e + 3) (nI x)) s') : p_X6_setWeight N (nI c) c1 c2 c3 c4 c5 c6 c7 c8 m s0 x1 x2 x3 x4 Q := by
  unfold p_X6_setWeight
  simp (disch := omega) only [zl, nS]
  refine s_isEntry6 hm hW (fun l e he => ⟨fun _ => ?_, fun z => absurd z (by decide)⟩) (fun e => ⟨fun z => absurd rfl z, fun _ => hbad e⟩)
  refine s_in0 (by decide) (fun x hx e2 => ⟨fun z => absurd z (by decide), fun _ => ?_⟩) (fun e2 => ⟨fun _ => hbad2 l e he e2, fun z => absurd rfl z⟩)
  have he' := he
  obtain ⟨hl, he, s, k, hs, hk2, hlk, r1, r2, r3⟩ := he
  have h10 := hW.2.1 l hl
  rw [r1, r2]
  refine s_listOf ?_
  rw [← hlk]
  subst r3
  subst e2
  simp (disch := omega) only [nS]
  exact s_put hN hc hm hk (by omega) (fun s hs => hok l e x he' hx rfl s hs)
theorem s_R_removeEntry {x1 x2 x3 : Int32} {Q : Int32 → Int32 → Int32 → (Nat → Int32) → (Nat → Int32) → Prop} (hN : 2000 < N) (hc : c ≤ 4) (hW : WF M) (hm : RM M m) (hk : KS c SV s0) (hbad : (∀ l e, ¬ isE M x1 x2 x3 l e) → Q (nI 0) (nI c) (nI 1) m s0)
    (hok : ∀ l e, isE M x1 x2 x3 l e → ∀ m' s', RM (remE M l e) m' → KS (cx c) (nx c SV M) s' → Q (nI (M (4 + l) - 1)) (nI (cx c)) (nI 0) m' s') : p_X6_removeEntry N (nI c) c1 c2 c3 c4 c5 c6 c7 c8 m s0 x1 x2 x3 Q := by
  unfold p_X6_removeEntry
  simp (disch := omega) only [zl, nS]
  refine s_isEntry6 hm hW (fun l e he => ⟨fun z => absurd z (by decide), fun _ => ?_⟩) (fun e => ⟨fun _ => hbad e, fun z => absurd rfl z⟩)
  refine s_keepS hN hc hm hk (fun s' hs' => ?_)
  have he' := he
  obtain ⟨hl, he, s, k, hs, hk2, hlk, r1, r2, r3⟩ := he
  have h10 := hW.2.1 l hl
  rw [r1, r2]
  refine s_listOf ?_
  rw [← hlk]
  subst r3
  simp (disch := omega) only [nS]
  rw [hm (4 + l) (by omega)]
  simp (disch := omega) only [nS]
  refine ⟨by omega, by omega, ?_⟩
  refine s_removeEntry_67 (m0 := upd m (4 + l) (nI (M (4 + l) - 1))) (ln := M (4 + l) - 1) (x := 138 + 40 * l + 4 * e) hl (by omega) (if_pos rfl) (by omega) (fun y m' hm' => ⟨by omega, ?_⟩) N _ _ (Nat.le_refl _) (by omega) (by omega) (SH_0 _ _ _)
  have e0 : m' (4 + l) = nI (M (4 + l) - 1) := by rw [hm' (4 + l), if_neg (by omega)]; exact if_pos rfl
  rw [e0]
  exact hok l e he' m' s' (remE_RM hm hl h10 he hm') hs'
theorem s_R_takeList {b : Nat → Nat} {tn : Nat} {x1 x2 : Int32} {rd : Nat → Int32} {Q : Int32 → Int32 → Int32 → Int32 → Int32 → (Nat → Int32) → (Nat → Int32) → (Nat → Int32) → Prop} (hN : 2000 < N) (hb : ∀ j, b j < 128) (htn : tn ≤ 120) (hc : c ≤ 4) (hW : WF M) (hm : RM M m) (hk : KS c SV s0) (hbad : ¬ isL x1 x2 → Q (nI 0) (nI c) (nI 1) c3 c4 rd m s0)
    (hfl : ∀ s l, s < 2 → l < 3 → x1 = nI s → x2 = nI l → (lsW b tn l).1 = 0 → ∀ p u rd', Q (-nI 10 - nI (lsW b tn l).2.1) (nI c) (nI 0) p u rd' m s0)
    (hok : ∀ s l, s < 2 → l < 3 → x1 = nI s → x2 = nI l → (lsW b tn l).1 = 1 → ∀ p u rd' m' s', RM (setL M (s * 3 + l) (lsW b tn l).2.2.1 (lsW b tn l).2.2.2) m' → KS (cx c) (nx c SV M) s' → Q (nI (lsW b tn l).2.2.1) (nI (cx c)) (nI 0) p u rd' m' s') : p_X6_takeList N (nI c) (nI tn) c2 c3 c4 c5 c6 c7 c8 rd (tB b) m s0 x1 x2 Q := by
  unfold p_X6_takeList
  simp (disch := omega) only [zl, nSm]
  refine s_isList6 (fun h => ⟨fun z => absurd z (by decide), fun _ => ?_⟩) (fun h => ⟨fun _ => hbad h, fun z => absurd rfl z⟩)
  obtain ⟨s, l, hs, hl, rfl, rfl⟩ := h
  obtain ⟨o1, o2, o3⟩ := lsW_out (b := b) (tn := tn) hl
  refine s_readList6 (by omega) hb htn hl (fun u rd' hr => ?_)
  rcases o1 with o1 | o1
  · rw [if_neg (by omega)]
    exact ⟨fun z => absurd rfl z, fun _ => hfl s l hs hl rfl rfl o1 _ _ _⟩
  · obtain ⟨o4, o5⟩ := o3 o1
    rw [if_pos o1]
    simp (disch := omega) only [nSm]
    refine ⟨fun _ => ?_, fun z => z.elim⟩
    refine s_keepS hN hc hm hk (fun s' hs' => s_listOf ?_)
    simp (disch := omega) only [nS]
    refine ⟨by omega, ?_⟩
    refine s_takeList_69 (m0 := upd m (4 + (3 * s + l)) (nI (lsW b tn l).2.2.1)) (by omega) (fun x m' hm' => ?_) N 0 _ (by omega) (by omega) (BL_0 _ _ _)
    refine hok s l hs hl rfl rfl o1 _ _ _ m' s' ?_ hs'
    rw [show s * 3 + l = 3 * s + l by omega]
    exact setL_RM hm (by omega) (hr o1) hm'
theorem s_R_setTies {x1 x2 x3 : Int32} {Q : Int32 → Int32 → Int32 → (Nat → Int32) → (Nat → Int32) → Prop} (hN : 2000 < N) (hc : c ≤ 4) (hW : WF M) (hm : RM M m) (hk : KS c SV s0) (hbad : (∀ a b d, a ≤ 5 → b ≤ 5 → d ≤ 5 → ¬ (x1 = nI a ∧ x2 = nI b ∧ x3 = nI d)) → Q (nI 0) (nI c) (nI 1) m s0)
    (hok : ∀ a b d, a ≤ 5 → b ≤ 5 → d ≤ 5 → x1 = nI a → x2 = nI b → x3 = nI d → ∀ s', KS (cx c) (nx c SV M) s' → Q (nI (100 * M 1 + 10 * M 2 + M 3)) (nI (cx c)) (nI 0) (upd (upd (upd m 1 (nI a)) 2 (nI b)) 3 (nI d)) s') : p_X6_setTies N (nI c) c1 c2 c3 c4 c5 c6 c7 c8 m s0 x1 x2 x3 Q := by
  unfold p_X6_setTies
  simp (disch := omega) only [zl, nS]
  refine s_in0 (by decide) (fun a ha e1 => ⟨fun z => absurd z (by decide), fun _ => ?_⟩) (fun e => ⟨fun _ => hbad (fun a b d ha hb hd h => e a ha h.1), fun z => absurd rfl z⟩)
  refine s_in0 (by decide) (fun b hb e2 => ⟨fun z => absurd z (by decide), fun _ => ?_⟩) (fun e => ⟨fun _ => hbad (fun a b d ha hb hd h => e b hb h.2.1), fun z => absurd rfl z⟩)
  refine s_in0 (by decide) (fun d hd e3 => ⟨fun z => absurd z (by decide), fun _ => ?_⟩) (fun e => ⟨fun _ => hbad (fun a b d ha hb hd h => e d hd h.2.2), fun z => absurd rfl z⟩)
  refine s_keepS hN hc hm hk (fun s' hs' => ?_)
  rw [hm 1 (by decide), hm 2 (by decide), hm 3 (by decide)]
  simp only [nS]
  subst e1
  subst e2
  subst e3
  exact hok a b d ha hb hd rfl rfl rfl s' hs'
end RO

/-! more calls: the class, as the law makes them -/
theorem s_entriesOf {N s : Nat} {M : Nat → Nat} {c0 : Int32} {lg : Nat → Int32} {Q : Int32 → Prop} (hN : 1000 < N) (hL : LN M lg) (hs : s < 2) (hq : Q (nI (M (4 + s * 3) + M (4 + (s * 3 + 1)) + M (4 + (s * 3 + 2))))) : p_X3_entriesOf N c0 lg (nI s) Q := by
  obtain ⟨n, hNn⟩ : ∃ n, N = n + 1 + 1 + 1 + 1 := ⟨N - 4, by omega⟩
  unfold p_X3_entriesOf
  simp only [zl]
  suffices hh : ∀ (f : Nat), f = n + 1 + 1 + 1 + 1 → p_X3_entriesOf_4 N (nI s) c0 lg (fun x _ => Q x) f (nI 0) (nI 0) from hh N hNn
  intro f hf
  subst hf
  unfold p_X3_entriesOf_4
  simp (disch := omega) only [zl, nS]
  refine ⟨fun h => absurd h (by omega), fun _ => s_slotOf ?_⟩
  simp (disch := omega) only [nS]
  rw [hL _ (by omega)]
  refine ⟨by omega, ?_⟩
  unfold p_X3_entriesOf_4
  simp (disch := omega) only [zl, nS]
  refine ⟨fun h => absurd h (by omega), fun _ => s_slotOf ?_⟩
  simp (disch := omega) only [nS]
  rw [hL _ (by omega)]
  refine ⟨by omega, ?_⟩
  unfold p_X3_entriesOf_4
  simp (disch := omega) only [zl, nS]
  refine ⟨fun h => absurd h (by omega), fun _ => s_slotOf ?_⟩
  simp (disch := omega) only [nS]
  rw [hL _ (by omega)]
  refine ⟨by omega, ?_⟩
  unfold p_X3_entriesOf_4
  simp (disch := omega) only [zl, nS]
  refine ⟨fun _ => ?_, fun h => absurd (by omega) h⟩
  simp only [Nat.zero_add, Nat.add_zero]
  exact hq
theorem s_L_swapSides {N c : Nat} {SV : Nat → Nat → Nat} {M : Nat → Nat} {st : Int32} {ka ra : Nat → Int64} {sa qa la na wa ta : Nat → Int32} {v0 : Int32} {k0 r0 : Nat → Int64} {s0 q0 l0 n0 w0 t0 : Nat → Int32} {v1 : Int32} {k1 r1 : Nat → Int64} {s1 q1 l1 n1 w1 t1 : Nat → Int32} {v2 : Int32} {k2 r2 : Nat → Int64} {s2 q2 l2 n2 w2 t2 : Nat → Int32} {v3 : Int32} {k3 r3 : Nat → Int64} {s3 q3 l3 n3 w3 t3 : Nat → Int32} {Q : Int32 → Int32 → Int32 → Int32 → (Nat → Int64) → (Nat → Int32) → (Nat → Int32) → (Nat → Int32) → (Nat → Int64) → (Nat → Int32) → (Nat → Int32) → (Nat → Int32) → (Nat → Int32) → (Nat → Int64) → (Nat → Int32) → (Nat → Int32) → Int32 → (Nat → Int64) → (Nat → Int32) → (Nat → Int32) → (Nat → Int32) → (Nat → Int64) → (Nat → Int32) → (Nat → Int32) → (Nat → Int32) → Int32 → (Nat → Int64) → (Nat → Int32) → (Nat → Int32) → (Nat → Int32) → (Nat → Int64) → (Nat → Int32) → (Nat → Int32) → (Nat → Int32) → Int32 → (Nat → Int64) → (Nat → Int32) → (Nat → Int32) → (Nat → Int32) → (Nat → Int64) → (Nat → Int32) → (Nat → Int32) → (Nat → Int32) → Prop} (hN : 1000 < N) (hc : c ≤ 4) (hW : WF M) (hn : ST M (nI (M 0)) ka sa qa la ra na wa ta) (hk : IK c SV v0 k0 s0 q0 l0 r0 n0 w0 t0 v1 k1 s1 q1 l1 r1 n1 w1 t1 v2 k2 s2 q2 l2 r2 n2 w2 t2 v3 k3 s3 q3 l3 r3 n3 w3 t3)
    (hok : ∀ (vx0 : Int32) (kx0 rx0 : Nat → Int64) (sx0 qx0 lx0 nx0 wx0 tx0 : Nat → Int32) (vx1 : Int32) (kx1 rx1 : Nat → Int64) (sx1 qx1 lx1 nx1 wx1 tx1 : Nat → Int32) (vx2 : Int32) (kx2 rx2 : Nat → Int64) (sx2 qx2 lx2 nx2 wx2 tx2 : Nat → Int32) (vx3 : Int32) (kx3 rx3 : Nat → Int64) (sx3 qx3 lx3 nx3 wx3 tx3 : Nat → Int32), IK (cx c) (nx c SV M) vx0 kx0 sx0 qx0 lx0 rx0 nx0 wx0 tx0 vx1 kx1 sx1 qx1 lx1 rx1 nx1 wx1 tx1 vx2 kx2 sx2 qx2 lx2 rx2 nx2 wx2 tx2 vx3 kx3 sx3 qx3 lx3 rx3 nx3 wx3 tx3 → ∀ (lg : Nat → Int32) (rg : Nat → Int64) (ng wg : Nat → Int32), ST (swpS M) (nI (M 0)) ka sa qa lg rg ng wg ta → Q (nI (M 7 + M 8 + M 9)) (nI (cx c)) (nI 1) vx0 kx0 sx0 qx0 lx0 rx0 nx0 wx0 tx0 lg rg ng wg vx1 kx1 sx1 qx1 lx1 rx1 nx1 wx1 tx1 vx2 kx2 sx2 qx2 lx2 rx2 nx2 wx2 tx2 vx3 kx3 sx3 qx3 lx3 rx3 nx3 wx3 tx3) : p_X5_swapSides N (nI c) st v0 k0 s0 q0 l0 r0 n0 w0 t0 (nI (M 0)) ka sa qa la ra na wa ta v1 k1 s1 q1 l1 r1 n1 w1 t1 v2 k2 s2 q2 l2 r2 n2 w2 t2 v3 k3 s3 q3 l3 r3 n3 w3 t3 Q := by
  unfold p_X5_swapSides
  obtain ⟨n, hNn⟩ : ∃ n, N = n + 1 + 1 + 1 + 1 := ⟨N - 4, by omega⟩
  simp only [zl]
  refine s_save hc hW hn hk (fun vx0 kx0 sx0 qx0 lx0 rx0 nx0 wx0 tx0 vx1 kx1 sx1 qx1 lx1 rx1 nx1 wx1 tx1 vx2 kx2 sx2 qx2 lx2 rx2 nx2 wx2 tx2 vx3 kx3 sx3 qx3 lx3 rx3 nx3 wx3 tx3 hx => ?_)
  suffices hh : ∀ (f : Nat), f = n + 1 + 1 + 1 + 1 → p_X5_swapSides_6 N (nI (cx c)) (nI 1) vx0 kx0 sx0 qx0 lx0 rx0 nx0 wx0 tx0 (nI (M 0)) ka sa qa ta vx1 kx1 sx1 qx1 lx1 rx1 nx1 wx1 tx1 vx2 kx2 sx2 qx2 lx2 rx2 nx2 wx2 tx2 vx3 kx3 sx3 qx3 lx3 rx3 nx3 wx3 tx3 (fun _ lg rg ng wg => p_X3_entriesOf N (nI (M 0)) lg (nI 0) (fun r => Q r (nI (cx c)) (nI 1) vx0 kx0 sx0 qx0 lx0 rx0 nx0 wx0 tx0 lg rg ng wg vx1 kx1 sx1 qx1 lx1 rx1 nx1 wx1 tx1 vx2 kx2 sx2 qx2 lx2 rx2 nx2 wx2 tx2 vx3 kx3 sx3 qx3 lx3 rx3 nx3 wx3 tx3)) f (nI 0) la ra na wa from hh N hNn
  intro f hf
  subst hf
  unfold p_X5_swapSides_6
  simp (disch := omega) only [zl, nS]
  refine ⟨fun h => absurd h (by omega), fun _ => s_slotOf (s_slotOf (s_exchangeLists (a := 0) hN (by decide) (EX_0 _ _ _) (EX_0 _ _ _) (EX_0 _ _ _) (EX_0 _ _ _) (fun l1 r1 n1 w1 i1 i2 i3 i4 => ?_)))⟩
  unfold p_X5_swapSides_6
  simp (disch := omega) only [zl, nS]
  refine ⟨fun h => absurd h (by omega), fun _ => s_slotOf (s_slotOf (s_exchangeLists (a := 1) hN (by decide) i1 i2 i3 i4 (fun l2 r2 n2 w2 j1 j2 j3 j4 => ?_)))⟩
  unfold p_X5_swapSides_6
  simp (disch := omega) only [zl, nS]
  refine ⟨fun h => absurd h (by omega), fun _ => s_slotOf (s_slotOf (s_exchangeLists (a := 2) hN (by decide) j1 j2 j3 j4 (fun l3 r3 n3 w3 k1' k2' k3' k4' => ?_)))⟩
  unfold p_X5_swapSides_6
  simp (disch := omega) only [zl, nS]
  refine ⟨fun _ => ?_, fun h => absurd (by omega) h⟩
  have hS := swpS_ST hW hn k1' k2' k3' k4'
  have hL : LN (swpS M) l3 := hS.2.2.2.2.1
  refine s_entriesOf hN hL (by decide) ?_
  rw [swpS_l (by decide), swpS_l (by decide), swpS_l (by decide)]
  exact hok _ _ _ _ _ _ _ _ _ _ _ _ _ _ _ _ _ _ _ _ _ _ _ _ _ _ _ _ _ _ _ _ _ _ _ _ hx l3 r3 n3 w3 hS

/-! a variant as it is written -/
def sq (y s : Nat) : List Nat := if y = 0 then [] else [s]
theorem sq_len (y s : Nat) : (sq y s).length ≤ 1 := by unfold sq; split <;> simp
theorem sq_0 (s : Nat) : sq 0 s = [] := rfl
theorem sq_p {y : Nat} (h : y ≠ 0) (s : Nat) : sq y s = [s] := if_neg h
def vB (M : Nat → Nat) (v : Nat) : List Nat := nmB (M (10 + 8 * v)) ++ ([47] ++ (nmB (M (10 + 8 * v + 1)) ++ ([32] ++ (nmB (M (10 + 8 * v + 2)) ++ (sq (M (10 + 8 * v + 3)) 45 ++ (nmB (M (10 + 8 * v + 3)) ++ (sq (M (10 + 8 * v + 4)) 45 ++ (nmB (M (10 + 8 * v + 4)) ++ ([32] ++ (nmB (M (10 + 8 * v + 5)) ++ ([32] ++ numB (M (10 + 8 * v + 6)))))))))))))
theorem vB_len (M : Nat → Nat) (v : Nat) : (vB M v).length ≤ 36 := by
  unfold vB
  simp only [List.length_append, List.length_cons, List.length_nil]
  have := nmB_len (M (10 + 8 * v))
  have := nmB_len (M (10 + 8 * v + 1))
  have := nmB_len (M (10 + 8 * v + 2))
  have := nmB_len (M (10 + 8 * v + 3))
  have := nmB_len (M (10 + 8 * v + 4))
  have := nmB_len (M (10 + 8 * v + 5))
  have := sq_len (M (10 + 8 * v + 3)) 45
  have := sq_len (M (10 + 8 * v + 4)) 45
  have := numB_len (M (10 + 8 * v + 6))
  omega
/-- what stands ahead of the i-th name -/
def sp (i y s : Nat) : List Nat := if i = 0 then [] else sq y s
theorem sp_len (i y s : Nat) : (sp i y s).length ≤ 1 := by
  unfold sp
  split
  · simp
  · exact sq_len y s
theorem s_pns {N n i last x key s : Nat} {x3 : Int32} {L : List Nat} {b : Nat → Int32} {K : Int32 → Int32 → (Nat → Int32) → Prop} (hN : 1000 < N) (hx : okN x) (hi : i ≤ last) (hlast : last < 3) (hk : key < 1152921504606846976) (h : key / 2 ^ (20 * (last - i)) % 1048576 = c5 x) (hs : s < 128) (hb : WB L b) (hl : L.length + 5 ≤ 608)
    (hq : ∀ b', WB (L ++ sp i x s ++ nmB x) b' → p_X0_putNames_12 N (lN key) x3 (nI s) (nI last) K n (nI (i + 1)) (nI (L ++ sp i x s ++ nmB x).length) b') : p_X0_putNames_12 N (lN key) x3 (nI s) (nI last) K (n + 1) (nI i) (nI L.length) b := by
  have hc := c5_lt hx
  have e : (((lN key).toUInt64 >>> ((lN (20 * (last - i))).toUInt64 &&& Int64.toUInt64 63)).toInt64 &&& lN 1048575).toInt32 = nI (c5 x) := by
    rw [let20 hk (by omega), h]
  unfold p_X0_putNames_12
  simp (disch := omega) only [zl, nS]
  rw [zL.2.2.2.2]
  simp only [e]
  simp (disch := omega) only [nS]
  have go : (sp i x s = []) → p_X0_putName N (nI L.length) b (nI (c5 x)) (fun u_1 u_2 => p_X0_putNames_12 N (lN key) x3 (nI s) (nI last) K n (nI (i + 1)) u_1 u_2) := by
    intro e0
    rw [e0, List.append_nil] at hq
    exact s_putName hN hx hb (by omega) hq
  refine ⟨fun z => absurd z (by omega), fun _ => ⟨fun z => go (if_pos (by omega)), fun z => ⟨fun z2 => go ?_, fun z2 => ?_⟩⟩⟩
  · have : x = 0 := (c5_z hx).mp z2
    unfold sp
    rw [if_neg (by omega), this]
    rfl
  · have hx0 : x ≠ 0 := fun q => z2 ((c5_z hx).mpr q)
    have e1 : sp i x s = [s] := by unfold sp; rw [if_neg (by omega)]; exact sq_p hx0 s
    rw [e1] at hq
    exact s_putB hb hs (by omega) (fun b1 h1 => s_putName hN hx h1 (by rw [len1]; omega) hq)
theorem s_pne {N n i last : Nat} {key : Int64} {x3 x4 : Int32} {x : Int32} {b : Nat → Int32} {K : Int32 → Int32 → (Nat → Int32) → Prop} (hi : last < i) (hlast : last < 3) (hi2 : i < 10) (hK : K (nI i) x b) : p_X0_putNames_12 N key x3 x4 (nI last) K (n + 1) (nI i) x b := by
  unfold p_X0_putNames_12
  simp (disch := omega) only [nS]
  exact ⟨fun _ => hK, fun z => absurd hi z⟩
theorem s_putNames0 {N x y s : Nat} {L : List Nat} {b : Nat → Int32} {Q : Int32 → (Nat → Int32) → Prop} (hN : 1000 < N) (hk : okR 0 x y 0) (hy : y ≠ 0) (hs : s < 128) (hb : WB L b) (hl : L.length + 9 ≤ 608) (hq : ∀ b', WB (L ++ (nmB x ++ ([s] ++ nmB y))) b' → Q (nI (L ++ (nmB x ++ ([s] ++ nmB y))).length) b') : p_X0_putNames N (nI L.length) b (lN (k5 0 x y 0)) (nI 0) (nI s) Q := by
  obtain ⟨m, rfl⟩ : ∃ m, N = m + 1 + 1 + 1 := ⟨N - 3, by omega⟩
  have hb5 := k5_b (by decide) hk
  obtain ⟨o0, o1, -⟩ := hk
  have c0 := c5_lt o0
  have c1 := c5_lt o1
  have n0 := nmB_len x
  unfold p_X0_putNames
  simp (disch := omega) only [zl, nS]
  rw [gmi_n (by decide), show nI (ml 0) - nI 1 = nI 1 from rfl]
  refine ⟨by decide, s_pns (i := 0) (x := x) hN o0 (by decide) (by decide) hb5 ?_ hs hb (by omega) (fun b1 h1 => s_pns (i := 1) (x := y) hN o1 (by decide) (by decide) hb5 ?_ hs h1 ?_ (fun b2 h2 => s_pne (by decide) (by decide) (by decide) ?_))⟩
  · rw [k5e0]; show _ / 1048576 % 1048576 = _; omega
  · rw [k5e0]; show _ / 1 % 1048576 = _; omega
  · rw [List.length_append, List.length_append]; have : (sp 0 x s).length = 0 := rfl; omega
  · rw [show L ++ sp 0 x s ++ nmB x ++ sp 1 y s ++ nmB y = L ++ (nmB x ++ ([s] ++ nmB y)) by
      rw [show sp 0 x s = [] from rfl, show sp 1 y s = [s] from sq_p hy s, List.append_nil]; simp only [List.append_assoc]] at h2 ⊢
    exact hq b2 h2
theorem s_putNames1 {N x y z s : Nat} {L : List Nat} {b : Nat → Int32} {Q : Int32 → (Nat → Int32) → Prop} (hN : 1000 < N) (hk : okR 1 x y z) (hs : s < 128) (hb : WB L b) (hl : L.length + 14 ≤ 608) (hq : ∀ b', WB (L ++ (nmB x ++ (sq y s ++ (nmB y ++ (sq z s ++ nmB z))))) b' → Q (nI (L ++ (nmB x ++ (sq y s ++ (nmB y ++ (sq z s ++ nmB z))))).length) b') : p_X0_putNames N (nI L.length) b (lN (k5 1 x y z)) (nI 1) (nI s) Q := by
  obtain ⟨m, rfl⟩ : ∃ m, N = m + 1 + 1 + 1 + 1 := ⟨N - 4, by omega⟩
  have hb5 := k5_b (by decide) hk
  obtain ⟨o0, o1, o2, -⟩ := hk
  have c0 := c5_lt o0
  have c1 := c5_lt o1
  have c2 := c5_lt o2
  have n0 := nmB_len x
  have n1 := nmB_len y
  unfold p_X0_putNames
  simp (disch := omega) only [zl, nS]
  rw [gmi_n (by decide), show nI (ml 1) - nI 1 = nI 2 from rfl]
  refine ⟨by decide, s_pns (i := 0) (x := x) hN o0 (by decide) (by decide) hb5 ?_ hs hb (by omega) (fun b1 h1 => s_pns (i := 1) (x := y) hN o1 (by decide) (by decide) hb5 ?_ hs h1 ?_ (fun b2 h2 => s_pns (i := 2) (x := z) hN o2 (by decide) (by decide) hb5 ?_ hs h2 ?_ (fun b3 h3 => s_pne (by decide) (by decide) (by decide) ?_)))⟩
  · rw [k5e1]; show _ / 1099511627776 % 1048576 = _; omega
  · rw [k5e1]; show _ / 1048576 % 1048576 = _; omega
  · rw [List.length_append, List.length_append]; have : (sp 0 x s).length = 0 := rfl; omega
  · rw [k5e1]; show _ / 1 % 1048576 = _; omega
  · rw [List.length_append, List.length_append, List.length_append, List.length_append]; have : (sp 0 x s).length = 0 := rfl; have := sp_len 1 y s; omega
  · rw [show L ++ sp 0 x s ++ nmB x ++ sp 1 y s ++ nmB y ++ sp 2 z s ++ nmB z = L ++ (nmB x ++ (sq y s ++ (nmB y ++ (sq z s ++ nmB z)))) by
      rw [show sp 0 x s = [] from rfl, show sp 1 y s = sq y s from rfl, show sp 2 z s = sq z s from rfl, List.append_nil]; simp only [List.append_assoc]] at h3 ⊢
    exact hq b3 h3
theorem s_putNames2 {N x s : Nat} {L : List Nat} {b : Nat → Int32} {Q : Int32 → (Nat → Int32) → Prop} (hN : 1000 < N) (hk : okR 2 x 0 0) (hs : s < 128) (hb : WB L b) (hl : L.length + 5 ≤ 608) (hq : ∀ b', WB (L ++ nmB x) b' → Q (nI (L ++ nmB x).length) b') : p_X0_putNames N (nI L.length) b (lN (k5 2 x 0 0)) (nI 2) (nI s) Q := by
  obtain ⟨m, rfl⟩ : ∃ m, N = m + 1 + 1 := ⟨N - 2, by omega⟩
  have hb5 := k5_b (by decide) hk
  obtain ⟨o0, -⟩ := hk
  have c0 := c5_lt o0
  unfold p_X0_putNames
  simp (disch := omega) only [zl, nS]
  rw [gmi_n (by decide), show nI (ml 2) - nI 1 = nI 0 from rfl]
  refine ⟨by decide, s_pns (i := 0) (x := x) hN o0 (by decide) (by decide) hb5 ?_ hs hb (by omega) (fun b1 h1 => s_pne (by decide) (by decide) (by decide) ?_)⟩
  · rw [k5e2]; show _ / 1 % 1048576 = _; omega
  · rw [show L ++ sp 0 x s ++ nmB x = L ++ nmB x by rw [show sp 0 x s = [] from rfl, List.append_nil]] at h1 ⊢
    exact hq b1 h1
theorem s_putVariant0 {N v : Nat} {M : Nat → Nat} {keys : Nat → Int64} {sizes b : Nat → Int32} {L : List Nat} {Q : Int32 → (Nat → Int32) → Prop} (hN : 1000 < N) (hW : WF M) (hK : KV M keys) (hS : SZ M sizes) (hv : v < M 0) (hb : WB L b) (hl : L.length + 36 ≤ 608) (hq : ∀ b', WB (L ++ vB M v) b' → Q (nI (L ++ vB M v).length) b') : p_X0_putVariant N (nI L.length) (nI (M 0)) keys b sizes (nI v) Q := by
  have h16 := hW.1
  obtain ⟨a, b0, c⟩ := hK v hv
  obtain ⟨r0, r1, r2⟩ := okv_okR hW hv
  obtain ⟨v0, v1, v2, v6, -⟩ := hW.2.2.2.1 v hv
  have hy : M (10 + 8 * v + 1) ≠ 0 := v0.2.2 rfl
  have l0 := nmB_len (M (10 + 8 * v))
  have l1 := nmB_len (M (10 + 8 * v + 1))
  have l2 := nmB_len (M (10 + 8 * v + 2))
  have l3 := nmB_len (M (10 + 8 * v + 3))
  have l4 := nmB_len (M (10 + 8 * v + 4))
  have l5 := nmB_len (M (10 + 8 * v + 5))
  have g3 := sq_len (M (10 + 8 * v + 3)) 45
  have g4 := sq_len (M (10 + 8 * v + 4)) 45
  unfold p_X0_putVariant
  simp only [zl]
  refine s_keyOf (by omega) (by decide) ?_
  rw [show v * 3 + 0 = v * 3 from rfl, a]
  refine s_putNames0 hN r0 hy (by decide) hb (by omega) (fun b1 h1 => s_putB h1 (by decide) ?_ (fun b2 h2 => s_keyOf (by omega) (by decide) ?_))
  · simp only [List.length_append, List.length_cons, List.length_nil]; omega
  rw [b0]
  refine s_putNames1 hN r1 (by decide) h2 ?_ (fun b3 h3 => s_putB h3 (by decide) ?_ (fun b4 h4 => s_keyOf (by omega) (by decide) ?_))
  · simp only [List.length_append, List.length_cons, List.length_nil]; omega
  · simp only [List.length_append, List.length_cons, List.length_nil]; omega
  rw [c]
  refine s_putNames2 hN r2 (by decide) h4 ?_ (fun b5 h5 => s_putB h5 (by decide) ?_ (fun b6 h6 => ?_))
  · simp only [List.length_append, List.length_cons, List.length_nil]; omega
  · simp only [List.length_append, List.length_cons, List.length_nil]; omega
  simp (disch := omega) only [nS]
  refine ⟨by omega, ?_⟩
  rw [hS v hv]
  refine s_putNumber hN v6 h6 ?_ (fun b7 h7 => ?_)
  · simp only [List.length_append, List.length_cons, List.length_nil]; omega
  · unfold vB at hq
    simp only [List.append_assoc] at h7 hq ⊢
    exact hq b7 h7
/-! the listing whole -/
noncomputable def lB (M : Nat → Nat) : Nat → List Nat
  | 0 => []
  | k + 1 => lB M k ++ ((if k = 0 then [] else [44, 32]) ++ vB M (roM M k))


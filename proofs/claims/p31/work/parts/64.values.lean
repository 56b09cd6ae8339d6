/-! the values that are asked for -/
theorem lg_self (x : Int64) : (lg_cmp x x = nI 0) = True := by
  have : lg_cmp x x = nI 0 := by
    unfold lg_cmp
    have h1 : ¬ x > x := fun z => by have := Int64.lt_iff_toInt_lt.mp z; omega
    rw [if_neg h1]
    exact if_pos rfl
  rw [this]
  exact eq_self _
/-- the reason of a refusal -/
def rsF (M : Nat → Nat) (v : Nat) : Nat → Nat → Nat
  | 0, _ => if M (10 + 8 * v + 7) = 0 then 7 else 8
  | r + 1, l => if wE M 0 l v = 0 then 1 + l else rsF M v r (l + 1)
def rsM (M : Nat → Nat) (v : Nat) : Nat := if scM M 0 v ≤ 0 then rsF M v 6 0 else 0
theorem s_reasonOf {N v : Nat} {M : Nat → Nat} {c0 : Int32} {scs ws qs : Nat → Int32} {Q : Int32 → Prop} (hN : 1000 < N) (hW : WF M) (hs : scs v = nI (scM M 0 v)) (hC : WC M 0 v ws) (hQ : QL M qs) (hv : v < M 0) (hq : Q (nI (rsM M v))) : p_X2_reasonOf N c0 scs ws (nI (M 0)) qs (nI v) Q := by
  have h16 := hW.1
  have b := scM_le (es := 0) hW hv
  have q7 := (hW.2.2.2.1 v hv).2.2.2.2
  have main : ∀ (K1 K2 : Int32 → Prop) n r l, l + r = 6 → r < n → (∀ k, k < 6 → rsF M v r l = 1 + k → K1 (nI k)) → (rsF M v r l = rsF M v 0 0 → K2 (nI 6)) → p_X2_reasonOf_13 N (nI v) c0 scs ws (nI (M 0)) qs K1 K2 n (nI l) := by
    intro K1 K2 n
    induction n with
    | zero => intro r l h1 h2; omega
    | succ n ih =>
      intro r l h1 h2 k1 k2
      unfold p_X2_reasonOf_13
      simp (disch := omega) only [zl, nS]
      refine ⟨fun h => ?_, fun h => s_cellOf ?_⟩
      · have : r = 0 := by omega
        subst this
        have : l = 6 := by omega
        subst this
        exact k2 rfl
      · obtain ⟨r, rfl⟩ : ∃ r', r = r' + 1 := ⟨r - 1, by omega⟩
        have hw := wE_le (es := 0) (v := v) hW (show l < 6 by omega)
        simp (disch := omega) only [nS]
        rw [hC l (by omega)]
        simp (disch := omega) only [nS]
        have e : rsF M v (r + 1) l = if wE M 0 l v = 0 then 1 + l else rsF M v r (l + 1) := rfl
        refine ⟨by omega, fun z => ?_, fun z => ?_⟩
        · rw [e, if_neg z] at k1 k2
          exact ih r (l + 1) (by omega) (by omega) k1 k2
        · rw [e, if_pos z] at k1
          exact k1 l (by omega) rfl
  unfold p_X2_reasonOf
  simp (disch := omega) only [zl, nS]
  rw [hs]
  simp (disch := omega) only [nS]
  unfold rsM at hq
  refine ⟨by omega, fun h => ?_, fun h => ?_⟩
  · rw [if_pos h] at hq
    refine main _ _ N 6 0 rfl (by omega) (fun k hk e => ?_) (fun e => ?_)
    · rw [e] at hq
      rw [nS.1]
      exact hq
    · rw [e] at hq
      refine ⟨by omega, ?_⟩
      rw [hQ v hv]
      simp (disch := omega) only [nS]
      refine ⟨fun z => ?_, fun z => ?_⟩
      · rw [show rsF M v 0 0 = if M (10 + 8 * v + 7) = 0 then 7 else 8 from rfl, if_neg z] at hq
        exact hq
      · rw [show rsF M v 0 0 = if M (10 + 8 * v + 7) = 0 then 7 else 8 from rfl, if_pos z] at hq
        exact hq
  · rw [if_neg h] at hq
    exact hq
/-- how many names a language has -/
def lnM (M : Nat → Nat) (v : Nat) : Nat := if M (10 + 8 * v + 4) = 0 then (if M (10 + 8 * v + 3) = 0 then 1 else 2) else 3
theorem key20 {k s : Nat} (hk : k < 1152921504606846976) (hs : s < 64) : ((lN k).toUInt64 >>> ((lN s).toUInt64 &&& Int64.toUInt64 63)).toInt64 &&& lN 1048575 = lN (k / 2 ^ s % 1048576) := by
  rw [lS.2.2.2.1 k s (by omega) hs, show lN 1048575 = lN (2 ^ 20 - 1) from rfl, wb_mask (Nat.lt_of_le_of_lt (Nat.div_le_self _ _) (by omega)) (by decide)]
theorem s_lns {N n i key z c : Nat} {x1 vn : Int32} {keys : Nat → Int64} {K : Int32 → Int32 → Prop} (hi : i < 3) (hk : key < 1152921504606846976) (h : key / 2 ^ (20 * i) % 1048576 = z) (hc : c < 10) (hq : p_X3_languageNames_13 N x1 (lN key) vn keys K n (nI (c + if z = 0 then 0 else 1)) (nI (i + 1))) : p_X3_languageNames_13 N x1 (lN key) vn keys K (n + 1) (nI c) (nI i) := by
  have hz : z < 1048576 := by rw [← h]; exact Nat.mod_lt _ (by decide)
  have e : ((lN key).toUInt64 >>> ((lN (20 * i)).toUInt64 &&& Int64.toUInt64 63)).toInt64 &&& lN 1048575 = lN z := by
    rw [key20 hk (by omega), h]
  unfold p_X3_languageNames_13
  simp (disch := omega) only [zl, nS, gm1]
  rw [zL.2.2.2.2, zL.1]
  simp only [e]
  rw [cmp0 (by omega) (by decide)]
  refine ⟨fun q => absurd q (by omega), fun _ => ⟨fun q => ?_, fun q => ?_⟩⟩
  · rw [if_pos q] at hq
    exact hq
  · rw [if_neg q] at hq
    exact hq
theorem s_languageNames {N v : Nat} {M : Nat → Nat} {keys : Nat → Int64} {Q : Int32 → Prop} (hN : 1000 < N) (hW : WF M) (hK : KV M keys) (hv : v < M 0) (hq : Q (nI (lnM M v))) : p_X3_languageNames N (nI (M 0)) keys (nI v) Q := by
  have h16 := hW.1
  obtain ⟨m, rfl⟩ : ∃ m, N = m + 1 + 1 + 1 + 1 := ⟨N - 4, by omega⟩
  obtain ⟨-, b0, -⟩ := hK v hv
  obtain ⟨-, r1, -⟩ := okv_okR hW hv
  obtain ⟨-, v1, -⟩ := hW.2.2.2.1 v hv
  have hz2 : M (10 + 8 * v + 2) ≠ 0 := v1.2.1
  have hb5 := k5_b (by decide) r1
  obtain ⟨o0, o1, o2, z0, z1, -⟩ := r1
  have c0 := c5_lt o0
  have c1 := c5_lt o1
  have c2 := c5_lt o2
  unfold p_X3_languageNames
  simp only [zl]
  refine s_keyOf (by omega) (by decide) ?_
  rw [b0]
  refine s_lns (i := 0) (z := c5 (M (10 + 8 * v + 4))) (by decide) hb5 (by rw [k5e1]; show _ / 1 % 1048576 = _; omega) (by decide) (s_lns (i := 1) (z := c5 (M (10 + 8 * v + 3))) (by decide) hb5 (by rw [k5e1]; show _ / 1048576 % 1048576 = _; omega) (by split <;> decide) (s_lns (i := 2) (z := c5 (M (10 + 8 * v + 2))) (by decide) hb5 (by rw [k5e1]; show _ / 1099511627776 % 1048576 = _; omega) (by split <;> split <;> decide) ?_))
  unfold p_X3_languageNames_13
  simp (disch := omega) only [zl, nS, gm1]
  refine ⟨fun _ => ?_, fun q => absurd (by decide) q⟩
  have e : (0 + (if c5 (M (10 + 8 * v + 4)) = 0 then 0 else 1) + (if c5 (M (10 + 8 * v + 3)) = 0 then 0 else 1) + if c5 (M (10 + 8 * v + 2)) = 0 then 0 else 1) = lnM M v := by
    unfold lnM
    rw [if_neg (fun q => hz2 ((c5_z o0).mp q))]
    by_cases q4 : M (10 + 8 * v + 4) = 0
    · rw [if_pos ((c5_z o2).mpr q4), if_pos q4]
      by_cases q3 : M (10 + 8 * v + 3) = 0
      · rw [if_pos ((c5_z o1).mpr q3), if_pos q3]
      · rw [if_neg (fun q => q3 ((c5_z o1).mp q)), if_neg q3]
    · have q3 : M (10 + 8 * v + 3) ≠ 0 := fun q => q4 (z1 q)
      rw [if_neg (fun q => q4 ((c5_z o2).mp q)), if_neg q4, if_neg (fun q => q3 ((c5_z o1).mp q))]
  rw [e]
  exact hq
noncomputable def vlV (M : Nat → Nat) (v w : Nat) : Int32 := if w = 0 then nI (M (10 + 8 * v + 6)) else if w = 1 then nI (M (10 + 8 * v + 7)) else if w = 2 then nI (scM M 0 v) else if w = 3 then nI (rsM M v) else if w = 4 then nP (plI (rkM M 0 0).2 v (rkM M 0 0).1) else if w = 5 then nP (plI (roM M) v (M 0)) else nI (lnM M v)
theorem s_variantValue {N v w : Nat} {M : Nat → Nat} {kc st rc ll : Int32} {keys : Nat → Int64} {sizes qs ps ws scs tr rks ord lo lp lb : Nat → Int32} {Q : Int32 → Prop} (hN : 1000 < N) (hW : WF M) (hK : KV M keys) (hS : SZ M sizes) (hQ : QL M qs) (hD : DR M 0 rc ps ws scs tr rks ord) (hL : DL M ll lo lp lb) (hv : v < M 0) (hw : w ≤ 6) (hq : Q (vlV M v w)) : p_X5_variantValue N kc st (nI (M 0)) sizes qs rc scs ws rks ll lp keys (nI v) (nI w) Q := by
  have h16 := hW.1
  unfold p_X5_variantValue
  simp (disch := omega) only [zl, nS]
  rw [hS v hv, hQ v hv, hD.2.2.1 v hv, hD.2.2.2.2.2.2 v hv, hL.2.2.1 v hv]
  refine ⟨fun h => ?_, fun h => ⟨by omega, ?_⟩, fun h => ⟨by omega, ?_⟩, fun h => ⟨by omega, ?_⟩, fun h => ?_, fun h => ⟨by omega, ?_⟩, fun h => ⟨by omega, ?_⟩⟩
  · have : w = 6 := by omega
    subst this
    exact s_languageNames hN hW hK hv hq
  · have : w = 0 := by omega
    subst this; exact hq
  · have : w = 1 := by omega
    subst this; exact hq
  · have : w = 2 := by omega
    subst this; exact hq
  · have : w = 3 := by omega
    subst this
    exact s_reasonOf hN hW (hD.2.2.1 v hv) (hD.2.1 v hv) hQ hv hq
  · have : w = 4 := by omega
    subst this; exact hq
  · have : w = 5 := by omega
    subst this; exact hq
theorem s_variantAt2 {N p n : Nat} {f : Nat → Nat} {ord : Nat → Int32} {Q : Int32 → Prop} (hn : n ≤ 16) (hp : p < 2147483648) (ho : RO n f ord) (hq : Q (if p < n then nI (f p) else nM)) : p_X2_variantAt N (nI n) ord (nI p) Q := by
  unfold p_X2_variantAt
  simp (disch := omega) only [zl, nS]
  refine ⟨fun h => absurd h (by omega), fun _ => ⟨fun h => ?_, fun h => ⟨by omega, ?_⟩⟩⟩
  · rw [if_neg (by omega)] at hq; exact hq
  · rw [if_pos (by omega)] at hq
    rw [ho p (by omega)]
    exact hq
theorem s_variantAt0 {N p n : Nat} {len : Int32} {f : Nat → Nat} {ord : Nat → Int32} {Q : Int32 → Prop} (hn : n ≤ 16) (hp : p < 2147483648) (ho : RO n f ord) (hq : Q (if p < n then nI (f p) else nM)) : p_X0_variantAt N len (nI n) ord (nI p) Q := by
  unfold p_X0_variantAt
  simp (disch := omega) only [zl, nS]
  refine ⟨fun h => absurd h (by omega), fun _ => ⟨fun h => ?_, fun h => ⟨by omega, ?_⟩⟩⟩
  · rw [if_neg (by omega)] at hq; exact hq
  · rw [if_pos (by omega)] at hq
    rw [ho p (by omega)]
    exact hq
theorem s_byteAt0 {N p : Nat} {L : List Nat} {b : Nat → Int32} {Q : Int32 → Prop} (hn : L.length ≤ 608) (hp : p < 2147483648) (hb : WB L b) (hq : Q (if p < L.length then nI (gB L p) else nM)) : p_X0_byteAt N (nI L.length) b (nI p) Q := by
  unfold p_X0_byteAt
  simp (disch := omega) only [zl, nS]
  refine ⟨fun h => absurd h (by omega), fun _ => ⟨fun h => ?_, fun h => ⟨by omega, ?_⟩⟩⟩
  · rw [if_neg (by omega)] at hq; exact hq
  · rw [if_pos (by omega)] at hq
    rw [hb p (by omega)]
    exact hq
noncomputable def wV (M : Nat → Nat) (tn w : Nat) : Int32 := if w = 0 then nI (M 0) else if w = 1 then nI (rkM M 0 0).1 else if w = 2 then nP (fiM M 0 0) else if w = 3 then nI (if (rkM M 0 0).1 = 0 then 0 else scM M 0 ((rkM M 0 0).2 0)) else if w = 4 then nI (M 4 + M 5 + M 6) else if w = 5 then nI (M 7 + M 8 + M 9) else if w = 6 then nI tn else if w = 7 then nI (M 1) else if w = 8 then nI (M 2) else if w = 9 then nI (M 3) else nI (lB M (M 0)).length
theorem fiM_at {M : Nat → Nat} {es wo : Nat} : (if 0 < (rkM M es wo).1 then nI ((rkM M es wo).2 0) else nM) = nP (fiM M es wo) := by
  by_cases q : (rkM M es wo).1 = 0
  · have e : fiM M es wo = 0 := fi_0 q
    rw [if_neg (by omega), e]
    rfl
  · have e : fiM M es wo = (rkM M es wo).2 0 + 1 := fi_p q
    rw [if_pos (by omega), e, nP_s]
theorem s_wholeValue {N tn w : Nat} {M : Nat → Nat} {kc st rc ll : Int32} {lengths ties ps ws scs tr rks ord lo lp lb : Nat → Int32} {Q : Int32 → Prop} (hN : 1000 < N) (hW : WF M) (hLn : LN M lengths) (hT : TI M ties) (hD : DR M 0 rc ps ws scs tr rks ord) (hL : DL M ll lo lp lb) (hw : w ≤ 10) (hq : Q (wV M tn w)) : p_X5_wholeValue N kc st (nI (M 0)) rc ord scs lengths (nI tn) ties ll (nI w) Q := by
  have h16 := hW.1
  obtain ⟨r1, r2⟩ := rkM_lt M 0 0
  obtain ⟨-, -, d3, -, d5, d6, -⟩ := hD
  rw [d5, hL.1]
  unfold p_X5_wholeValue
  simp (disch := omega) only [zl, nS]
  refine ⟨fun h => ?_, fun h => ?_, fun h => ?_, fun h => ?_, fun h => ?_, fun h => ?_, fun h => ?_, fun h => ?_, fun h => ?_, fun h => ?_, fun h => ?_⟩
  · have : w = 10 := by omega
    subst this; exact hq
  · have : w = 0 := by omega
    subst this; exact hq
  · have : w = 1 := by omega
    subst this; exact hq
  · have : w = 2 := by omega
    subst this
    exact s_variantAt2 (by omega) (by decide) d6 (by rw [fiM_at]; exact hq)
  · have : w = 3 := by omega
    subst this
    unfold p_X2_servedScore
    simp (disch := omega) only [zl, nS]
    refine ⟨fun z => ?_, fun z => ?_⟩
    · have e : wV M tn 3 = nI 0 := by
        show nI (if (rkM M 0 0).1 = 0 then 0 else scM M 0 ((rkM M 0 0).2 0)) = nI 0
        rw [if_pos (by omega)]
      rw [e] at hq
      exact hq
    · have hx := r2 0 (by omega)
      have e : wV M tn 3 = nI (scM M 0 ((rkM M 0 0).2 0)) := by
        show nI (if (rkM M 0 0).1 = 0 then 0 else scM M 0 ((rkM M 0 0).2 0)) = _
        rw [if_neg (by omega)]
      rw [e] at hq
      rw [d6 0 (by omega)]
      simp (disch := omega) only [nS]
      refine ⟨by omega, ?_⟩
      rw [d3 _ hx]
      exact hq
  · have : w = 4 := by omega
    subst this
    exact s_entriesOf (s := 0) hN hLn (by decide) hq
  · have : w = 5 := by omega
    subst this
    exact s_entriesOf (s := 1) hN hLn (by decide) hq
  · have : w = 6 := by omega
    subst this; exact hq
  · have : w = 7 := by omega
    subst this
    rw [show nI 7 - nI 7 = nI 0 from rfl, nS.2.2.2.2.2.2.2.2.2.2 0 3 (by decide), nS.2.2.2.2.1 0 (by decide), hT 0 (by decide)]
    exact ⟨by decide, hq⟩
  · have : w = 8 := by omega
    subst this
    rw [show nI 8 - nI 7 = nI 1 from rfl, nS.2.2.2.2.2.2.2.2.2.2 1 3 (by decide), nS.2.2.2.2.1 1 (by decide), hT 1 (by decide)]
    exact ⟨by decide, hq⟩
  · have : w = 9 := by omega
    subst this
    rw [show nI 9 - nI 7 = nI 2 from rfl, nS.2.2.2.2.2.2.2.2.2.2 2 3 (by decide), nS.2.2.2.2.1 2 (by decide), hT 2 (by decide)]
    exact ⟨by decide, hq⟩
/-! an entry's values -/
/-- how many of the first n -/
noncomputable def nC (P : Nat → Prop) : Nat → Nat
  | 0 => 0
  | n + 1 => nC P n + if dc (P n) = true then 1 else 0
theorem nC_t {P : Nat → Prop} {n : Nat} (h : P n) : nC P (n + 1) = nC P n + 1 := by
  show nC P n + (if dc (P n) = true then 1 else 0) = _
  rw [if_pos (dc_t h)]
theorem nC_f {P : Nat → Prop} {n : Nat} (h : ¬ P n) : nC P (n + 1) = nC P n := by
  show nC P n + (if dc (P n) = true then 1 else 0) = _
  rw [dc_f h, if_neg (by decide)]
  exact Nat.add_zero _
theorem nC_le (P : Nat → Prop) : ∀ n, nC P n ≤ n
  | 0 => Nat.le_refl _
  | n + 1 => by
    have := nC_le P n
    by_cases q : P n
    · rw [nC_t q]; omega
    · rw [nC_f q]; omega
noncomputable def eV (M : Nat → Nat) (l e w : Nat) : Nat := if w = 0 then M (ec l e + 3) else if w = 1 then cnE M l e else if w = 2 then nC (fun v => fitE M l e v) (M 0) else nC (fun v => plW M l v = e + 1) (M 0)
theorem s_matchCount {N l e : Nat} {M : Nat → Nat} {keys ranges : Nat → Int64} {names : Nat → Int32} {Q : Int32 → Prop} (hN : 1000 < N) (hW : WF M) (hK : KV M keys) (hR : RA M ranges) (hA : NA M names) (hl : l < 6) (he : e < M (4 + l)) (hq : Q (nI (nC (fun v => fitE M l e v) (M 0)))) : p_X3_matchCount N (nI (M 0)) names keys ranges (nI l) (nI e) Q := by
  have h16 := hW.1
  have main : ∀ n v, v ≤ M 0 → M 0 - v < n → p_X3_matchCount_5 N (nI l) (nI e) (nI (M 0)) names keys ranges (fun x _ => Q x) n (nI (nC (fun v => fitE M l e v) v)) (nI v) := by
    intro n
    induction n with
    | zero => intro v h1 h2; omega
    | succ n ih =>
      intro v h1 h2
      unfold p_X3_matchCount_5
      simp (disch := omega) only [zl, nS]
      refine ⟨fun h => ?_, fun h => s_matches hW hK hR hA hl he (by omega) (fun z => ⟨fun q => absurd q (by decide), fun _ => ?_⟩) (fun z => ⟨fun _ => ?_, fun q => absurd rfl q⟩)⟩
      · have : v = M 0 := by omega
        subst this
        exact hq
      · have := ih (v + 1) (by omega) (by omega)
        rw [nC_t z] at this
        exact this
      · have := ih (v + 1) (by omega) (by omega)
        rw [nC_f z] at this
        exact this
  unfold p_X3_matchCount
  simp only [zl]
  exact main N 0 (by omega) (by omega)
theorem s_countingCount {N l e : Nat} {M : Nat → Nat} {c0 : Int32} {ps : Nat → Int32} {Q : Int32 → Prop} (hN : 1000 < N) (hW : WF M) (hP : ∀ v, v < M 0 → PC M 0 v ps) (hl : l < 6) (he : e < M (4 + l)) (hq : Q (nI (nC (fun v => plW M l v = e + 1) (M 0)))) : p_X2_countingCount N c0 (nI (M 0)) ps (nI l) (nI e) Q := by
  have h16 := hW.1
  have h10 := hW.2.1 l hl
  have main : ∀ n v, v ≤ M 0 → M 0 - v < n → p_X2_countingCount_5 N (nI l) (nI e) c0 (nI (M 0)) ps (fun x _ => Q x) n (nI (nC (fun v => plW M l v = e + 1) v)) (nI v) := by
    intro n
    induction n with
    | zero => intro v h1 h2; omega
    | succ n ih =>
      intro v h1 h2
      unfold p_X2_countingCount_5
      simp (disch := omega) only [zl, nS]
      refine ⟨fun h => ?_, fun h => s_cellOf ?_⟩
      · have : v = M 0 := by omega
        subst this
        exact hq
      · simp (disch := omega) only [nS]
        rw [hP v (by omega) l hl, if_neg (by omega)]
        have pe : (nP (plW M l v) = nI e) = (plW M l v = e + 1) := by
          have := plW_le M l v
          by_cases q : plW M l v = 0
          · rw [q, nP_0, nSm.2.2.1 e (by omega)]
            exact propext ⟨False.elim, fun z => by omega⟩
          · rw [nP_p q, show (nI (plW M l v - 1) = nI e) = (plW M l v - 1 = e) from nS.2.2.2.2.2.2.2.2.2.1 _ e (by omega) (by omega)]
            exact propext ⟨fun z => by omega, fun z => by omega⟩
        rw [pe]
        have hi := ih (v + 1) (by omega) (by omega)
        refine ⟨by omega, fun z => ?_, fun z => ?_⟩
        · rw [nC_f (P := fun v => plW M l v = e + 1) z] at hi; exact hi
        · rw [nC_t (P := fun v => plW M l v = e + 1) z] at hi; exact hi
  unfold p_X2_countingCount
  simp only [zl]
  exact main N 0 (by omega) (by omega)
theorem s_entryValue {N l e w : Nat} {M : Nat → Nat} {kc st rc : Int32} {keys ranges : Nat → Int64} {names weights ps : Nat → Int32} {Q : Int32 → Prop} (hN : 1000 < N) (hW : WF M) (hK : KV M keys) (hR : RA M ranges) (hA : NA M names) (hWt : WA M weights) (hP : ∀ v, v < M 0 → PC M 0 v ps) (hl : l < 6) (he : e < M (4 + l)) (hw : w ≤ 3) (hq : Q (nI (eV M l e w))) : p_X5_entryValue N kc st (nI (M 0)) weights names keys ranges rc ps (nI l) (nI e) (nI w) Q := by
  have h16 := hW.1
  have h10 := hW.2.1 l hl
  unfold p_X5_entryValue
  simp (disch := omega) only [zl, nS]
  refine ⟨fun h => ?_, fun h => s_rowOf ?_, fun h => s_rowOf ?_, fun h => ?_⟩
  · have : w = 3 := by omega
    subst this
    exact s_countingCount hN hW hP hl he hq
  · have : w = 0 := by omega
    subst this
    simp (disch := omega) only [nS]
    rw [hWt l hl e he]
    exact ⟨by omega, hq⟩
  · have : w = 1 := by omega
    subst this
    simp (disch := omega) only [nS]
    rw [hA l hl e he]
    exact ⟨by omega, hq⟩
  · have : w = 2 := by omega
    subst this
    exact s_matchCount hN hW hK hR hA hl he hq

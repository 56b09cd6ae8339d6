/-! weights and scores; es: the side that counts as empty, + 1, or 0 -/
def wE (M : Nat → Nat) (es l v : Nat) : Nat := if l / 3 + 1 = es then 1000 else if plW M l v = 0 then (if M (4 + l) = 0 then 1000 else if l % 3 = 2 ∧ M (10 + 8 * v + 5) = 1768161280 then 1000 else 0) else M (ec l (plW M l v - 1) + 3)
def wP (M : Nat → Nat) (l v p : Nat) : Nat := if p = 0 then (if M (4 + l) = 0 then 1000 else if l % 3 = 2 ∧ M (10 + 8 * v + 5) = 1768161280 then 1000 else 0) else M (ec l (p - 1) + 3)
theorem okN_id : okN 1768161280 := by unfold okN; decide
theorem c5_id2 {y : Nat} (h : okN y) : (c5 y = 299008) = (y = 1768161280) := by
  have e : c5 1768161280 = 299008 := by decide
  rw [← e]
  exact propext (c5_inj h okN_id)
theorem wP_le {M : Nat → Nat} (hW : WF M) {l v p : Nat} (hl : l < 6) (hp : p ≤ M (4 + l)) : wP M l v p ≤ 1000 := by
  unfold wP
  by_cases q : p = 0
  · rw [if_pos q]
    by_cases q2 : M (4 + l) = 0
    · rw [if_pos q2]; exact Nat.le_refl _
    · rw [if_neg q2]
      by_cases q3 : l % 3 = 2 ∧ M (10 + 8 * v + 5) = 1768161280
      · rw [if_pos q3]; exact Nat.le_refl _
      · rw [if_neg q3]; exact Nat.zero_le _
  · rw [if_neg q]
    exact (hW.2.2.2.2 l hl (p - 1) (by omega)).2
theorem wE_le {M : Nat → Nat} (hW : WF M) {es l v : Nat} (hl : l < 6) : wE M es l v ≤ 1000 := by
  unfold wE
  by_cases q : l / 3 + 1 = es
  · rw [if_pos q]; exact Nat.le_refl _
  · rw [if_neg q]
    have := wP_le (v := v) hW hl (plW_le M l v)
    unfold wP at this
    exact this
theorem nP_e {p : Nat} (hp : p < 1000) : (nP p = nM) = (p = 0) := by
  unfold nP
  by_cases q : p = 0
  · rw [if_pos q]; exact propext ⟨fun _ => q, fun _ => rfl⟩
  · rw [if_neg q, nSm.2.1 (p - 1) (by omega)]
    exact propext ⟨fun z => z.elim, fun z => absurd z q⟩
theorem nP_p {p : Nat} (h : p ≠ 0) : nP p = nI (p - 1) := if_neg h
theorem lg_eq (z : Int64) (c : Nat) : (lg_cmp z (lN c) = nI 0) = (z = lN c) := by
  unfold lg_cmp
  by_cases q : z > lN c
  · rw [if_pos q]
    refine propext ⟨fun h => absurd h (by decide), fun h => ?_⟩
    rw [h] at q
    exact (Int64.lt_irrefl q).elim
  · rw [if_neg q]
    by_cases r : z = lN c
    · rw [if_pos r]; exact propext ⟨fun _ => r, fun _ => rfl⟩
    · rw [if_neg r]; exact propext ⟨fun h => absurd h (by decide), fun h => absurd h r⟩
theorem s_weightAt {N l v p : Nat} {M : Nat → Nat} {lengths weights : Nat → Int32} {keys : Nat → Int64} {Q : Int32 → Prop} (hW : WF M) (hL : LN M lengths) (hK : KV M keys) (hA : WA M weights) (hl : l < 6) (hv : v < M 0) (hp : p ≤ M (4 + l)) (hq : Q (nI (wP M l v p))) : p_X3_weightAt N (nI (M 0)) lengths keys weights (nI l) (nP p) (nI v) Q := by
  have h16 := hW.1
  have h10 := hW.2.1 l hl
  unfold p_X3_weightAt
  unfold wP at hq
  simp (disch := omega) only [zl, zL, nS, nSm, lmod3]
  rw [nP_e (by omega), hL l hl]
  simp (disch := omega) only [nS]
  refine ⟨fun h => ⟨hl, fun h2 => ⟨fun h3 => ?_, fun h3 => s_keyOf (i := 2) (by omega) (by decide) ?_⟩, fun h2 => ?_⟩, fun h => ?_⟩
  · rw [if_pos h, if_neg h2, if_neg (fun z => h3 z.1)] at hq
    exact hq
  · obtain ⟨o1, o2, o3, o4, o5⟩ := hW.2.2.2.1 v hv
    have b5 := c5_lt o3.1.1
    rw [(hK v hv).2.2, k5e2, lg_eq, lS.2.2.2.2.1 _ _ (by omega) (by decide), c5_id2 o3.1.1]
    rw [if_pos h, if_neg h2] at hq
    refine ⟨fun h4 => ?_, fun h4 => ?_⟩
    · rw [if_neg (fun z => h4 z.2)] at hq
      exact hq
    · rw [if_pos ⟨h3, h4⟩] at hq
      exact hq
  · rw [if_pos h, if_pos h2] at hq
    exact hq
  · rw [nP_p h]
    rw [if_neg h] at hq
    refine s_rowOf ?_
    simp (disch := omega) only [nS]
    rw [hA l hl (p - 1) (by omega)]
    exact ⟨by omega, hq⟩
/-- the reference's counts -/
def CT (M : Nat → Nat) (counts : Nat → Int32) : Prop := ∀ l, l < 6 → ∀ v, v < M 0 → counts (16 * l + v) = nP (plW M l v)
theorem es_eq {l es : Nat} (hl : l < 6) (he : es ≤ 2) : (nI (l / 3) = nP es) = (l / 3 + 1 = es) := by
  unfold nP
  by_cases q : es = 0
  · rw [if_pos q, nSm.2.1 (l / 3) (by omega)]
    exact propext ⟨fun z => z.elim, fun z => by omega⟩
  · rw [if_neg q]
    simp (disch := omega) only [nS]
    exact propext ⟨fun z => by omega, fun z => by omega⟩
/-- a score: the six weights from list l on, r of them, onto x -/
def scF (M : Nat → Nat) (es v : Nat) : Nat → Nat → Nat → Nat
  | 0, _, x => x
  | r + 1, l, x => scF M es v r (l + 1) (x * wE M es l v / 1000)
def scE (M : Nat → Nat) (es v q : Nat) : Nat := scF M es v 6 0 q
theorem scF_le {M : Nat → Nat} (hW : WF M) {es v : Nat} : ∀ (r l x : Nat), l + r ≤ 6 → scF M es v r l x ≤ x
  | 0, _, x, _ => Nat.le_refl _
  | r + 1, l, x, h => by
    unfold scF
    have hw := wE_le (es := es) (v := v) hW (show l < 6 by omega)
    have h1 : x * wE M es l v / 1000 ≤ x := Nat.div_le_of_le_mul (by rw [Nat.mul_comm]; exact Nat.mul_le_mul_right _ hw)
    exact Nat.le_trans (scF_le hW r (l + 1) _ (by omega)) h1
theorem sc_b {x w : Nat} (hx : x ≤ 1000) (hw : w ≤ 1000) : x * w < 2147483648 ∧ x * w / 1000 ≤ 1000 := by
  have h1 : x * w ≤ 1000 * 1000 := Nat.mul_le_mul hx hw
  omega
/-- the class's weights of variant v: cell v * 6 + l -/
def WC (M : Nat → Nat) (es v : Nat) (ws : Nat → Int32) : Prop := ∀ l, l < 6 → ws (v * 6 + l) = nI (wE M es l v)
theorem s_cellOf {N v l : Nat} {Q : Int32 → Prop} (hq : Q (nI (v * 6 + l))) : p_X5_cellOf N (nI v) (nI l) Q := by
  unfold p_X5_cellOf
  simp only [zl, nS]
  exact hq
theorem s_scoreOfQuality {N v es q : Nat} {M : Nat → Nat} {c0 : Int32} {ws : Nat → Int32} {Q : Int32 → Prop} (hN : 1000 < N) (hW : WF M) (hC : WC M es v ws) (hv : v < M 0) (hx : q ≤ 1000) (hq : Q (nI (scE M es v q))) : p_X2_scoreOfQuality N c0 ws (nI v) (nI q) Q := by
  have h16 := hW.1
  unfold p_X2_scoreOfQuality
  simp (disch := omega) only [zl]
  have main : ∀ n r l x, l + r = 6 → r < n → x ≤ 1000 → Q (nI (scF M es v r l x)) → p_X2_scoreOfQuality_5 N (nI v) (nI q) c0 ws (fun x _ => Q x) n (nI x) (nI l) := by
    intro n
    induction n with
    | zero => intro r l x a b; omega
    | succ n ih =>
      intro r l x hl hn hx hq
      unfold p_X2_scoreOfQuality_5
      simp (disch := omega) only [zl, nS]
      refine ⟨fun h => ?_, fun h => s_cellOf ?_⟩
      · have : r = 0 := by omega
        subst this
        exact hq
      · obtain ⟨r, rfl⟩ : ∃ r', r = r' + 1 := ⟨r - 1, by omega⟩
        unfold scF at hq
        have hb := sc_b hx (wE_le (es := es) (v := v) hW (show l < 6 by omega))
        simp (disch := omega) only [nS]
        rw [hC l (by omega), pk_mul, nS.2.2.2.1 _ _ hb.1 (by decide) (by decide)]
        exact ⟨by omega, ih r (l + 1) _ (by omega) (by omega) hb.2 hq⟩
  exact main N 6 0 q rfl (by omega) hx hq


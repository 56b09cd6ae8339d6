/-! the least weight, the least quality -/
/-- a cell of a weight or a quality: none that decides what fits -/
def CK (c : Nat) : Prop := c < 378 ∧ (∀ j, j < 10 → j ≠ c) ∧ (∀ v k, v < 16 → k < 7 → 10 + 8 * v + k ≠ c) ∧ (∀ l e i, i < 3 → ec l e + i ≠ c)
theorem CK_q {u : Nat} (hu : u < 16) : CK (10 + 8 * u + 7) := ⟨by omega, fun j hj => by omega, fun v k hv hk => by omega, fun l e i hi => by unfold ec; omega⟩
theorem CK_w {l e : Nat} (hl : l < 6) (he : e < 10) : CK (ec l e + 3) := ⟨by unfold ec; omega, fun j hj => by unfold ec; omega, fun v k hv hk => by unfold ec; omega, fun l e i hi => by unfold ec; omega⟩
theorem fitE_s {M : Nat → Nat} (hW : WF M) {c x l e v : Nat} (h : CK c) (hl : l < 6) (he : e < M (4 + l)) (hv : v < 16) : (fitE (setC M c x) l e v ↔ fitE M l e v) ∧ cnE (setC M c x) l e = cnE M l e := by
  have e0 : setC M c x (ec l e) = M (ec l e) := setC_o (h.2.2.2 l e 0 (by decide))
  have e1 : setC M c x (ec l e + 1) = M (ec l e + 1) := setC_o (h.2.2.2 l e 1 (by decide))
  have e2 : setC M c x (ec l e + 2) = M (ec l e + 2) := setC_o (h.2.2.2 l e 2 (by decide))
  have ev : ∀ k i, vo k + i < 7 → vc (setC M c x) v k i = vc M v k i := fun k i hi => by
    unfold vc
    rw [Nat.add_assoc]
    exact setC_o (h.2.2.1 v (vo k + i) hv hi)
  refine ⟨?_, by show cn _ _ _ = cn _ _ _; rw [e0, e1, e2]⟩
  show fits _ _ _ _ _ _ ↔ fits _ _ _ _ _ _
  rw [e0, e1, e2]
  rcases (show l % 3 = 0 ∨ l % 3 = 1 ∨ l % 3 = 2 by omega) with q | q | q
  · rw [q, ev 0 0 (by decide), ev 0 1 (by decide), ev 0 2 (by decide)]
  · rw [q, ev 1 0 (by decide), ev 1 1 (by decide), ev 1 2 (by decide)]
  · obtain ⟨⟨-, -, -, -, z1, -, z2⟩, -⟩ := hW.2.2.2.2 l hl e he
    have y1 := z2 q
    have y2 := z1 y1
    rw [q, ev 2 0 (by decide), y1, y2]
    unfold fits
    exact ⟨fun a => ⟨a.1, fun z => absurd rfl z, fun z => absurd rfl z⟩, fun a => ⟨a.1, fun z => absurd rfl z, fun z => absurd rfl z⟩⟩
theorem pl_s {M : Nat → Nat} (hW : WF M) {c x l v : Nat} (h : CK c) (hl : l < 6) (hv : v < 16) : ∀ (r e p s : Nat), e + r ≤ M (4 + l) → pl (setC M c x) l v r e p s = pl M l v r e p s
  | 0, _, _, _, _ => rfl
  | r + 1, e, p, s, hr => by
    obtain ⟨f1, f2⟩ := fitE_s (x := x) hW h hl (show e < M (4 + l) by omega) hv
    unfold pl
    rw [f2]
    by_cases q : fitE M l e v ∧ s < cnE M l e + 1
    · rw [if_pos q, if_pos ⟨f1.mpr q.1, q.2⟩]
      exact pl_s hW h hl hv r (e + 1) _ _ (by omega)
    · rw [if_neg q, if_neg (fun z => q ⟨f1.mp z.1, z.2⟩)]
      exact pl_s hW h hl hv r (e + 1) _ _ (by omega)
theorem plW_s {M : Nat → Nat} (hW : WF M) {c x l v : Nat} (h : CK c) (hl : l < 6) (hv : v < 16) : plW (setC M c x) l v = plW M l v := by
  unfold plW
  rw [show setC M c x (4 + l) = M (4 + l) from setC_o (h.2.1 _ (by omega))]
  exact pl_s hW h hl hv _ _ _ _ (by omega)
theorem set0_s {M : Nat → Nat} {c x : Nat} (h : CK c) : setC M c x 0 = M 0 := setC_o (h.2.1 0 (by decide))
theorem tR_s {M : Nat → Nat} (hW : WF M) {c x es v q rule : Nat} (h : CK c) (hv : v < 16) : tR (setC M c x) es v q rule = tR M es v q rule := by
  unfold tR tP
  rw [plW_s hW h (by decide) hv, plW_s hW h (by decide) hv, show setC M c x (10 + 8 * v + 6) = M (10 + 8 * v + 6) from setC_o (h.2.2.1 v 6 hv (by decide))]
theorem tie_s {M : Nat → Nat} (hW : WF M) {c x es u qu w qw : Nat} (h : CK c) (hu : u < 16) (hw : w < 16) : ∀ (r i : Nat), i + r ≤ 3 → (tie (setC M c x) es u qu w qw r i ↔ tie M es u qu w qw r i)
  | 0, _, _ => Iff.rfl
  | r + 1, i, hi => by
    unfold tie
    rw [show setC M c x (1 + i) = M (1 + i) from setC_o (h.2.1 _ (by omega)), tR_s hW h hu, tR_s hW h hw]
    have := tie_s (x := x) (es := es) (qu := qu) (qw := qw) hW h hu hw r (i + 1) (by omega)
    exact ⟨fun a => ⟨fun z => this.mp (a.1 z), a.2⟩, fun a => ⟨fun z => this.mpr (a.1 z), a.2⟩⟩
theorem ahd_s {M : Nat → Nat} (hW : WF M) {c x es u qu su w qw sw : Nat} (h : CK c) (hu : u < 16) (hw : w < 16) : ahd (setC M c x) es u qu su w qw sw ↔ ahd M es u qu su w qw sw := by
  unfold ahd
  have := tie_s (x := x) (es := es) (qu := qu) (qw := qw) hW h hu hw 3 0 (by decide)
  exact ⟨fun a => a.elim Or.inl (fun b => Or.inr ⟨b.1, this.mp b.2⟩), fun a => a.elim Or.inl (fun b => Or.inr ⟨b.1, this.mpr b.2⟩)⟩
theorem CT_s {M : Nat → Nat} (hW : WF M) {c x : Nat} {cts : Nat → Int32} (h : CK c) (hC : CT M cts) : CT (setC M c x) cts := by
  intro l hl v hv
  have h16 := hW.1
  rw [set0_s h] at hv
  rw [plW_s hW h hl (by omega)]
  exact hC l hl v hv
/-- the least number for which P holds, + 1; 0 if none is at most 1000 -/
noncomputable def lsF (P : Nat → Prop) : Nat → Nat → Nat
  | 0, _ => 0
  | r + 1, x => if dc (P x) = true then x + 1 else lsF P r (x + 1)
theorem lsF_t {P : Nat → Prop} {r x : Nat} (h : P x) : lsF P (r + 1) x = x + 1 := by
  show (if dc (P x) = true then x + 1 else lsF P r (x + 1)) = _
  rw [if_pos (dc_t h)]
theorem lsF_f {P : Nat → Prop} {r x : Nat} (h : ¬ P x) : lsF P (r + 1) x = lsF P r (x + 1) := by
  show (if dc (P x) = true then x + 1 else lsF P r (x + 1)) = _
  rw [dc_f h, if_neg (by decide)]
noncomputable def lsM (P : Nat → Prop) : Nat := lsF P 1001 0
theorem lsF_le (P : Nat → Prop) : ∀ (r x : Nat), lsF P r x ≤ x + r
  | 0, _ => Nat.zero_le _
  | r + 1, x => by
    by_cases q : P x
    · rw [lsF_t q]; omega
    · rw [lsF_f q]; have := lsF_le P r (x + 1); omega
theorem lsF_at {P : Nat → Prop} {y : Nat} : ∀ (r x : Nat), x ≤ y → y < x + r → (∀ z, z < y → ¬ P z) → P y → lsF P r x = y + 1
  | 0, x, h1, h2, _, _ => absurd h2 (by omega)
  | r + 1, x, h1, h2, h3, h4 => by
    by_cases q : x = y
    · rw [q]; exact lsF_t h4
    · rw [lsF_f (h3 x (by omega))]
      exact lsF_at r (x + 1) (by omega) (by omega) h3 h4
theorem lsF_no {P : Nat → Prop} : ∀ (r x : Nat), (∀ z, z < x + r → ¬ P z) → lsF P r x = 0
  | 0, _, _ => rfl
  | r + 1, x, h => by
    rw [lsF_f (h x (by omega))]
    exact lsF_no r (x + 1) (fun z hz => h z (by omega))
theorem lsF_c {P P' : Nat → Prop} : ∀ (r x : Nat), (∀ z, z < x + r → (P z ↔ P' z)) → lsF P r x = lsF P' r x
  | 0, _, _ => rfl
  | r + 1, x, h => by
    have ih := lsF_c r (x + 1) (fun z hz => h z (by omega))
    have hx := h x (by omega)
    by_cases q : P x
    · rw [lsF_t q, lsF_t (hx.mp q)]
    · rw [lsF_f q, lsF_f (fun z => q (hx.mpr z)), ih]
/-- the variant v is served when the cell c holds x -/
def PS (M : Nat → Nat) (c v x : Nat) : Prop := fiM (setC M c x) 0 0 = v + 1
/-! the least quality -/
theorem wE_q {M : Nat → Nat} (hW : WF M) {u x es l v : Nat} (hu : u < 16) (hl : l < 6) (hv : v < 16) : wE (setC M (10 + 8 * u + 7) x) es l v = wE M es l v := by
  have h := CK_q hu
  unfold wE
  rw [plW_s hW h hl hv, show setC M (10 + 8 * u + 7) x (4 + l) = M (4 + l) from setC_o (by omega), show setC M (10 + 8 * u + 7) x (10 + 8 * v + 5) = M (10 + 8 * v + 5) from setC_o (by omega), show setC M (10 + 8 * u + 7) x (ec l (plW M l v - 1) + 3) = M (ec l (plW M l v - 1) + 3) from setC_o (by unfold ec; omega)]
theorem scF_q {M : Nat → Nat} (hW : WF M) {u x es v : Nat} (hu : u < 16) (hv : v < 16) : ∀ (r l y : Nat), l + r ≤ 6 → scF (setC M (10 + 8 * u + 7) x) es v r l y = scF M es v r l y
  | 0, _, _, _ => rfl
  | r + 1, l, y, h => by
    unfold scF
    rw [wE_q hW hu (by omega) hv]
    exact scF_q hW hu hv r (l + 1) _ (by omega)
theorem scE_q {M : Nat → Nat} (hW : WF M) {u x es v q : Nat} (hu : u < 16) (hv : v < 16) : scE (setC M (10 + 8 * u + 7) x) es v q = scE M es v q := scF_q hW hu hv 6 0 q (by decide)
theorem scF_mono {M : Nat → Nat} {es v : Nat} : ∀ (r l x y : Nat), x ≤ y → scF M es v r l x ≤ scF M es v r l y
  | 0, _, _, _, h => h
  | r + 1, l, x, y, h => by
    unfold scF
    exact scF_mono r (l + 1) _ _ (Nat.div_le_div_right (Nat.mul_le_mul_right _ h))
theorem tie_mono {M : Nat → Nat} (hW : WF M) {es u qu w x y : Nat} (hxy : x ≤ y) (hy : y ≤ 1000) (hq : qu ≤ 1000) : ∀ (r i : Nat), tie M es u qu w y r i → tie M es u qu w x r i
  | 0, _, h => h
  | r + 1, i, h => by
    unfold tie at h ⊢
    by_cases h5 : M (1 + i) = 5
    · rw [h5, tR_5, tR_5] at h ⊢
      have e1 := neg_t (q := qu) (by omega)
      have e2 := neg_t (q := y) (by omega)
      have e3 := neg_t (q := x) (by omega)
      have key : ∀ z, z ≤ 1000 → ((-nI qu = -nI z) ↔ qu = z) := fun z hz => by
        refine ⟨fun g => ?_, fun g => by rw [g]⟩
        have := congrArg Int32.toInt g
        rw [e1, neg_t (by omega)] at this
        omega
      by_cases a : qu = y
      · have t := h.1 ((key y hy).mpr a)
        by_cases b : x = y
        · rw [b]; exact ⟨fun _ => t, fun z => absurd ((key y hy).mpr a) z⟩
        · refine ⟨fun z => absurd ((key x (by omega)).mp z) (by omega), fun _ => Int32.lt_iff_toInt_lt.mpr (by rw [e1, e3]; omega)⟩
      · have t := Int32.lt_iff_toInt_lt.mp (h.2 (fun z => a ((key y hy).mp z)))
        rw [e1, e2] at t
        refine ⟨fun z => absurd ((key x (by omega)).mp z) (by omega), fun _ => Int32.lt_iff_toInt_lt.mpr (by rw [e1, e3]; omega)⟩
    · rw [tR_q (q := x) (q' := y) h5]
      exact ⟨fun z => tie_mono hW hxy hy hq r (i + 1) (h.1 z), h.2⟩
theorem ahd_mono {M : Nat → Nat} (hW : WF M) {es u qu su w x y sx sy : Nat} (hxy : x ≤ y) (hy : y ≤ 1000) (hq : qu ≤ 1000) (hs : sx ≤ sy) (h : ahd M es u qu su w y sy) : ahd M es u qu su w x sx := by
  unfold ahd at h ⊢
  rcases h with h | h
  · exact Or.inl (by omega)
  · by_cases q : sx < su
    · exact Or.inl q
    · exact Or.inr ⟨by omega, tie_mono hW hxy hy hq 3 0 h.2⟩
/-- v leads with the quality x -/
def LQ (M : Nat → Nat) (v x : Nat) : Prop := 0 < scE M 0 v x ∧ ∀ u, u < M 0 → u ≠ v → ¬ ahd M 0 u (M (10 + 8 * u + 7)) (scM M 0 u) v x (scE M 0 v x)
theorem LQ_PS {M : Nat → Nat} (hW : WF M) {v x : Nat} (hv : v < M 0) : PS M (10 + 8 * v + 7) v x ↔ LQ M v x := by
  have h16 := hW.1
  have hc := CK_q (show v < 16 by omega)
  have e0 := set0_s (M := M) (x := x) hc
  have sv : scM (setC M (10 + 8 * v + 7) x) 0 v = scE M 0 v x := by
    unfold scM
    rw [setC_i]
    exact scE_q hW (by omega) (by omega)
  have su : ∀ u, u < M 0 → u ≠ v → scM (setC M (10 + 8 * v + 7) x) 0 u = scM M 0 u := fun u hu hne => by
    unfold scM
    rw [setC_o (by omega)]
    exact scE_q hW (by omega) (by omega)
  have av : ∀ u, u < M 0 → u ≠ v → (aM (setC M (10 + 8 * v + 7) x) 0 v u ↔ ahd M 0 v x (scE M 0 v x) u (M (10 + 8 * u + 7)) (scM M 0 u)) := fun u hu hne => by
    unfold aM
    rw [sv, su u hu hne, setC_i, setC_o (show 10 + 8 * u + 7 ≠ 10 + 8 * v + 7 by omega)]
    exact ahd_s hW hc (by omega) (by omega)
  unfold PS fiM
  rw [fi_iff (aM_TO _ 0), e0]
  unfold LQ inM
  rw [sv]
  refine ⟨fun ⟨_, h2, h3⟩ => ⟨h2.1, fun u hu hne ha => ?_⟩, fun ⟨h2, h3⟩ => ⟨hv, ⟨h2, by omega⟩, fun u hu hin hne => ?_⟩⟩
  · by_cases q : scM M 0 u = 0
    · rw [q] at ha
      have h21 := h2.1
      unfold ahd at ha
      rcases ha with ha | ha <;> omega
    · have := h3 u hu (by rw [su u hu hne]; exact ⟨by omega, by omega⟩) hne
      exact ahd_asym ha ((av u hu hne).mp this)
  · rw [av u hu hne]
    rcases ahd_tot (M := M) (es := 0) (u := v) (w := u) (qu := x) (su := scE M 0 v x) (qw := M (10 + 8 * u + 7)) (sw := scM M 0 u) (fun z => hne z.symm) with t | t
    · exact t
    · exact absurd t (h3 u hu hne)
theorem LQ_mono {M : Nat → Nat} (hW : WF M) {v x y : Nat} (hxy : x ≤ y) (hy : y ≤ 1000) (h : LQ M v x) : LQ M v y := by
  have hs : scE M 0 v x ≤ scE M 0 v y := scF_mono 6 0 x y hxy
  refine ⟨by have := h.1; omega, fun u hu hne ha => h.2 u hu hne (ahd_mono hW hxy hy (hW.2.2.2.1 u hu).2.2.2.2 hs ha)⟩
theorem s_leadsAtQuality {N v x : Nat} {M : Nat → Nat} {c0 : Int32} {ws scs ties tr : Nat → Int32} {Q : Int32 → Prop} (hN : 1000 < N) (hW : WF M) (hT : TI M ties) (hC : WC M 0 v ws) (hs : ∀ u, u < M 0 → scs u = nI (scM M 0 u)) (ht : ∀ u, u < M 0 → ∀ i, i < 3 → tr (u * 3 + i) = tR M 0 u (M (10 + 8 * u + 7)) (M (1 + i))) (hv : v < M 0) (hx : x ≤ 1000)
    (h1 : LQ M v x → Q (nI 1)) (h0 : ¬ LQ M v x → Q (nI 0)) : p_X2_leadsAtQuality N c0 ws (nI (M 0)) scs ties tr (nI v) (nI x) Q := by
  have h16 := hW.1
  have hb : scE M 0 v x ≤ 1000 := Nat.le_trans (scF_le hW 6 0 _ (by decide)) hx
  have main : ∀ (K1 K2 : Int32 → Prop), (∀ z, ¬ LQ M v x → K1 z) → ((∀ u, u < M 0 → u ≠ v → ¬ ahd M 0 u (M (10 + 8 * u + 7)) (scM M 0 u) v x (scE M 0 v x)) → K2 (nI (M 0))) → ∀ n u, u ≤ M 0 → M 0 - u < n → (∀ w, w < u → w ≠ v → ¬ ahd M 0 w (M (10 + 8 * w + 7)) (scM M 0 w) v x (scE M 0 v x)) → p_X2_leadsAtQuality_10 N (nI v) (nI x) (nI (scE M 0 v x)) c0 ws (nI (M 0)) scs ties tr K1 K2 n (nI u) := by
    intro K1 K2 k1 k2 n
    induction n with
    | zero => intro u g1 g2; omega
    | succ n ih =>
      intro u g1 g2 g3
      unfold p_X2_leadsAtQuality_10
      simp (disch := omega) only [zl, nS]
      refine ⟨fun h => ?_, fun h => ⟨fun e => ih (u + 1) (by omega) (by omega) (fun w hw hne => g3 w (by omega) hne), fun e => ⟨by omega, ?_⟩⟩⟩
      · have : u = M 0 := by omega
        subst this
        exact k2 g3
      · have bu := scM_le (es := 0) hW (show u < M 0 by omega)
        rw [hs u (by omega)]
        refine s_isAhead1 (M := M) (es := 0) hN hW hT (by omega) hv (by omega) (by omega) (ht u (by omega)) (ht v hv) (fun hA => ⟨fun z => absurd z (by decide), fun _ => k1 _ (fun q => q.2 u (by omega) e hA)⟩) (fun hA => ⟨fun _ => ih (u + 1) (by omega) (by omega) (fun w hw hne => ?_), fun z => absurd rfl z⟩)
        by_cases q : w = u
        · rw [q]; exact hA
        · exact g3 w (by omega) hne
  unfold p_X2_leadsAtQuality
  simp only [zl]
  refine s_scoreOfQuality hN hW hC hv hx (main _ _ (fun z q => h0 q) (fun g => ?_) N 0 (by omega) (by omega) (fun w hw => absurd hw (by omega)))
  simp (disch := omega) only [nS]
  exact ⟨fun z => h0 (fun q => by have := q.1; omega), fun z => h1 ⟨by omega, g⟩⟩
theorem s_leastLeadingQuality {N v : Nat} {M : Nat → Nat} {c0 : Int32} {ws scs ties tr : Nat → Int32} {Q : Int32 → Prop} (hN : 1000 < N) (hW : WF M) (hT : TI M ties) (hC : WC M 0 v ws) (hs : ∀ u, u < M 0 → scs u = nI (scM M 0 u)) (ht : ∀ u, u < M 0 → ∀ i, i < 3 → tr (u * 3 + i) = tR M 0 u (M (10 + 8 * u + 7)) (M (1 + i))) (hv : v < M 0)
    (hq : Q (nP (lsM (PS M (10 + 8 * v + 7) v)))) : p_X2_leastLeadingQuality N c0 ws (nI (M 0)) scs ties tr (nI v) Q := by
  have h16 := hW.1
  rw [show lsM (PS M (10 + 8 * v + 7) v) = lsM (LQ M v) from lsF_c 1001 0 (fun z _ => LQ_PS hW hv)] at hq
  have z0 : ¬ LQ M v 0 := fun h => by
    have h1 := h.1
    have : scE M 0 v 0 ≤ 0 := scF_le hW 6 0 0 (by decide)
    omega
  have main : ∀ k n T, k ≤ 10 → k < n → T ≤ 1000 → ¬ LQ M v T → (∀ q, T + 2 ^ k ≤ q → q ≤ 1000 → LQ M v q) → p_X2_leastLeadingQuality_6 N (nI v) c0 ws (nI (M 0)) scs ties tr (fun x _ => (nI 1000 ≤ x → Q nM) ∧ (¬ nI 1000 ≤ x → Q (x + nI 1))) n (nI T) (nI (2 ^ k / 2)) := by
    intro k
    induction k with
    | zero =>
      intro n T h1 h2 h3 h4 h5
      obtain ⟨n, rfl⟩ : ∃ n', n = n' + 1 := ⟨n - 1, by omega⟩
      unfold p_X2_leastLeadingQuality_6
      simp only [zl]
      refine ⟨fun _ => ?_, fun z => absurd (by decide) z⟩
      simp (disch := omega) only [nS]
      refine ⟨fun z => ?_, fun z => ?_⟩
      · rw [show lsM (LQ M v) = 0 from lsF_no 1001 0 (fun y hy hl => h4 (LQ_mono hW (by omega) h3 hl))] at hq
        exact hq
      · rw [show lsM (LQ M v) = T + 1 + 1 from lsF_at 1001 0 (by omega) (by omega) (fun y hy hl => h4 (LQ_mono hW (by omega) h3 hl)) (h5 (T + 1) (Nat.le_refl _) (by omega)), nP_s] at hq
        exact hq
    | succ k ih =>
      intro n T h1 h2 h3 h4 h5
      obtain ⟨n, rfl⟩ : ∃ n', n = n' + 1 := ⟨n - 1, by omega⟩
      have e2 : 2 ^ (k + 1) / 2 = 2 ^ k := by rw [Nat.pow_succ]; omega
      have p1 : 0 < 2 ^ k := Nat.pos_of_ne_zero (fun z => by have := Nat.pow_eq_zero.mp z; omega)
      have p2 : 2 ^ k ≤ 2 ^ 9 := Nat.pow_le_pow_right (by decide) (by omega)
      have p3 : (2 : Nat) ^ 9 = 512 := rfl
      have e3 : (2 : Nat) ^ (k + 1) = 2 ^ k * 2 := Nat.pow_succ _ _
      rw [e2]
      have ihk := ih n
      rw [e3] at h5
      clear e2 e3
      revert p2
      revert p1
      revert h5
      revert ihk
      generalize 2 ^ k = p
      intro ihk h5 p1 p2
      unfold p_X2_leastLeadingQuality_6
      simp (disch := omega) only [zl, nS]
      refine ⟨fun z => absurd z (by omega), fun _ => ⟨fun z => ihk T (by omega) (by omega) h3 h4 (fun q q1 q2 => absurd q1 (by omega)), fun z => s_leadsAtQuality hN hW hT hC hs ht hv (by omega) (fun hl => ⟨fun _ => ihk T (by omega) (by omega) h3 h4 (fun q q1 q2 => LQ_mono hW q1 q2 hl), fun z => absurd z (by decide)⟩) (fun hl => ⟨fun z => absurd rfl z, fun _ => ihk (T + p) (by omega) (by omega) (by omega) hl (fun q q1 q2 => h5 q (by omega) q2)⟩)⟩⟩
  unfold p_X2_leastLeadingQuality
  simp only [zl]
  exact main 10 N 0 (by decide) (by omega) (by decide) z0 (fun q q1 q2 => absurd q1 (by show ¬ 0 + 1024 ≤ q; omega))
/-! the least weight -/
def sW (M : Nat → Nat) (l e u x : Nat) : Nat := scM (setC M (ec l e + 3) x) 0 u
theorem wE_w {M : Nat → Nat} (hW : WF M) {l e x k u : Nat} (hl : l < 6) (he : e < M (4 + l)) (hk : k < 6) (hu : u < 16) : wE (setC M (ec l e + 3) x) 0 k u = if k = l ∧ plW M l u = e + 1 then x else wE M 0 k u := by
  have h10 := hW.2.1 l hl
  have hk10 := hW.2.1 k hk
  have h := CK_w hl (show e < 10 by omega)
  have hple := plW_le M k u
  unfold wE
  rw [plW_s hW h hk hu, show setC M (ec l e + 3) x (4 + k) = M (4 + k) from setC_o (h.2.1 _ (by omega)), show setC M (ec l e + 3) x (10 + 8 * u + 5) = M (10 + 8 * u + 5) from setC_o (h.2.2.1 u 5 hu (by decide)), if_neg (show ¬ k / 3 + 1 = 0 by omega), if_neg (show ¬ k / 3 + 1 = 0 by omega)]
  by_cases q : k = l ∧ plW M l u = e + 1
  · rw [if_pos q, q.1, if_neg (by omega), q.2, Nat.add_sub_cancel, setC_i]
  · rw [if_neg q]
    by_cases q0 : plW M k u = 0
    · rw [if_pos q0, if_pos q0]
    · rw [if_neg q0, if_neg q0]
      refine setC_o (fun z => q ?_)
      unfold ec at z
      have e1 : k = l := by omega
      subst e1
      exact ⟨rfl, by omega⟩
theorem scF_w {M M' : Nat → Nat} {u : Nat} : ∀ (r l x y : Nat), l + r ≤ 6 → (∀ k, k < 6 → wE M 0 k u ≤ wE M' 0 k u) → x ≤ y → scF M 0 u r l x ≤ scF M' 0 u r l y
  | 0, _, _, _, _, _, h => h
  | r + 1, l, x, y, hl, hw, h => by
    unfold scF
    exact scF_w r (l + 1) _ _ (by omega) hw (Nat.div_le_div_right (Nat.mul_le_mul h (hw l (by omega))))
theorem scF_we {M M' : Nat → Nat} {u : Nat} : ∀ (r l x : Nat), l + r ≤ 6 → (∀ k, k < 6 → wE M 0 k u = wE M' 0 k u) → scF M 0 u r l x = scF M' 0 u r l x
  | 0, _, _, _, _ => rfl
  | r + 1, l, x, hl, hw => by
    unfold scF
    rw [hw l (by omega)]
    exact scF_we r (l + 1) _ (by omega) hw
theorem sW_q {M : Nat → Nat} {l e x u : Nat} (hu : u < 16) : setC M (ec l e + 3) x (10 + 8 * u + 7) = M (10 + 8 * u + 7) := setC_o (by unfold ec; omega)
theorem sW_o {M : Nat → Nat} (hW : WF M) {l e x u : Nat} (hl : l < 6) (he : e < M (4 + l)) (hu : u < 16) (h : plW M l u ≠ e + 1) : sW M l e u x = scM M 0 u := by
  unfold sW scM
  rw [sW_q hu]
  refine scF_we 6 0 _ (by decide) (fun k hk => ?_)
  rw [wE_w hW hl he hk hu, if_neg (fun z => h z.2)]
theorem sW_mono {M : Nat → Nat} (hW : WF M) {l e x y u : Nat} (hl : l < 6) (he : e < M (4 + l)) (hu : u < 16) (hxy : x ≤ y) : sW M l e u x ≤ sW M l e u y := by
  unfold sW scM
  rw [sW_q hu, sW_q hu]
  refine scF_w 6 0 _ _ (by decide) (fun k hk => ?_) (Nat.le_refl _)
  rw [wE_w hW hl he hk hu, wE_w hW hl he hk hu]
  split
  · exact hxy
  · exact Nat.le_refl _
theorem sW_le {M : Nat → Nat} (hW : WF M) {l e x u : Nat} (hl : l < 6) (he : e < M (4 + l)) (hu : u < M 0) (hx : x ≤ 1000) : sW M l e u x ≤ 1000 := by
  have h10 := hW.2.1 l hl
  exact scM_le (setW_WF hW hl he hx) (by rw [set0_s (CK_w hl (by omega))]; exact hu)
/-- v leads with the weight x of the entry e of the list l -/
def LW (M : Nat → Nat) (l e v x : Nat) : Prop := 0 < sW M l e v x ∧ ∀ u, u < M 0 → u ≠ v → ¬ ahd M 0 u (M (10 + 8 * u + 7)) (sW M l e u x) v (M (10 + 8 * v + 7)) (sW M l e v x)
theorem LW_PS {M : Nat → Nat} (hW : WF M) {l e v x : Nat} (hl : l < 6) (he : e < M (4 + l)) (hv : v < M 0) : PS M (ec l e + 3) v x ↔ LW M l e v x := by
  have h16 := hW.1
  have h10 := hW.2.1 l hl
  have hc := CK_w hl (show e < 10 by omega)
  have e0 := set0_s (M := M) (x := x) hc
  have av : ∀ u, u < M 0 → u ≠ v → (aM (setC M (ec l e + 3) x) 0 v u ↔ ahd M 0 v (M (10 + 8 * v + 7)) (sW M l e v x) u (M (10 + 8 * u + 7)) (sW M l e u x)) := fun u hu hne => by
    unfold aM
    rw [sW_q (show u < 16 by omega), sW_q (show v < 16 by omega)]
    exact ahd_s hW hc (by omega) (by omega)
  unfold PS fiM
  rw [fi_iff (aM_TO _ 0), e0]
  unfold LW inM
  refine ⟨fun ⟨_, h2, h3⟩ => ⟨h2.1, fun u hu hne ha => ?_⟩, fun ⟨h2, h3⟩ => ⟨hv, ⟨h2, by omega⟩, fun u hu hin hne => ?_⟩⟩
  · by_cases q : sW M l e u x = 0
    · rw [q] at ha
      have h21 : 0 < sW M l e v x := h2.1
      unfold ahd at ha
      rcases ha with ha | ha <;> omega
    · have := h3 u hu ⟨Nat.pos_of_ne_zero q, by omega⟩ hne
      exact ahd_asym ha ((av u hu hne).mp this)
  · rw [av u hu hne]
    rcases ahd_tot (M := M) (es := 0) (u := v) (w := u) (qu := M (10 + 8 * v + 7)) (su := sW M l e v x) (qw := M (10 + 8 * u + 7)) (sw := sW M l e u x) (fun z => hne z.symm) with t | t
    · exact t
    · exact absurd t (h3 u hu hne)
theorem s_scoreOfWeight {N l e u x : Nat} {M : Nat → Nat} {c0 : Int32} {ps qs ws scs : Nat → Int32} {Q : Int32 → Prop} (hN : 1000 < N) (hW : WF M) (hQ : QL M qs) (hP : PC M 0 u ps) (hC : WC M 0 u ws) (hs : scs u = nI (scM M 0 u)) (hl : l < 6) (he : e < M (4 + l)) (hu : u < M 0) (hx : x ≤ 1000) (hq : Q (nI (sW M l e u x))) : p_X2_scoreOfWeight N c0 ps (nI (M 0)) qs ws scs (nI u) (nI l) (nI e) (nI x) Q := by
  have h16 := hW.1
  have h10 := hW.2.1 l hl
  have q7 := (hW.2.2.2.1 u hu).2.2.2.2
  have pe : (nP (plW M l u) = nI e) = (plW M l u = e + 1) := by
    have := plW_le M l u
    by_cases q : plW M l u = 0
    · rw [q, nP_0, nSm.2.2.1 e (by omega)]
      exact propext ⟨False.elim, fun z => by omega⟩
    · rw [nP_p q, show (nI (plW M l u - 1) = nI e) = (plW M l u - 1 = e) from nS.2.2.2.2.2.2.2.2.2.1 _ e (by omega) (by omega)]
      exact propext ⟨fun z => by omega, fun z => by omega⟩
  unfold p_X2_scoreOfWeight
  refine s_cellOf ?_
  simp (disch := omega) only [zl, nS]
  rw [hP l hl, if_neg (by omega), pe, hs, hQ u hu]
  refine ⟨by omega, fun h => ⟨by omega, ?_⟩, fun h => ⟨by omega, by rw [sW_o hW hl he (by omega) h] at hq; exact hq⟩⟩
  have main : ∀ n r k y, k + r = 6 → r < n → y ≤ 1000 → Q (nI (scF (setC M (ec l e + 3) x) 0 u r k y)) → p_X2_scoreOfWeight_35 N (nI u) (nI l) (nI e) (nI x) c0 ps (nI (M 0)) qs ws scs (fun x _ => Q x) n (nI y) (nI k) := by
    intro n
    induction n with
    | zero => intro r k y h1 h2; omega
    | succ n ih =>
      intro r k y h1 h2 h3 hk
      unfold p_X2_scoreOfWeight_35
      simp (disch := omega) only [zl, nS]
      refine ⟨fun z => ?_, fun z => ⟨fun z2 => s_cellOf ?_, fun z2 => ?_⟩⟩
      · have : r = 0 := by omega
        subst this
        exact hk
      · obtain ⟨r, rfl⟩ : ∃ r', r = r' + 1 := ⟨r - 1, by omega⟩
        unfold scF at hk
        rw [wE_w hW hl he (by omega) (by omega), if_neg (fun a => z2 a.1)] at hk
        have hb := sc_b h3 (wE_le (es := 0) (v := u) hW (show k < 6 by omega))
        simp (disch := omega) only [nS]
        rw [hC k (by omega), pk_mul, nS.2.2.2.1 _ _ hb.1 (by decide) (by decide)]
        exact ⟨by omega, ih r (k + 1) _ (by omega) (by omega) hb.2 hk⟩
      · obtain ⟨r, rfl⟩ : ∃ r', r = r' + 1 := ⟨r - 1, by omega⟩
        unfold scF at hk
        rw [wE_w hW hl he (by omega) (by omega), if_pos ⟨z2, h⟩] at hk
        have hb := sc_b h3 hx
        rw [nS.2.2.2.1 _ _ hb.1 (by decide) (by decide)]
        exact ih r (k + 1) _ (by omega) (by omega) hb.2 hk
  refine main N 6 0 _ rfl (by omega) q7 ?_
  unfold sW scM at hq
  rw [sW_q (show u < 16 by omega)] at hq
  exact hq
theorem s_leadsAtWeight {N l e v x : Nat} {M : Nat → Nat} {c0 : Int32} {ps qs ws scs ties tr : Nat → Int32} {Q : Int32 → Prop} (hN : 1000 < N) (hW : WF M) (hT : TI M ties) (hQ : QL M qs) (hP : ∀ u, u < M 0 → PC M 0 u ps) (hC : ∀ u, u < M 0 → WC M 0 u ws) (hs : ∀ u, u < M 0 → scs u = nI (scM M 0 u)) (ht : ∀ u, u < M 0 → ∀ i, i < 3 → tr (u * 3 + i) = tR M 0 u (M (10 + 8 * u + 7)) (M (1 + i))) (hl : l < 6) (he : e < M (4 + l)) (hv : v < M 0) (hx : x ≤ 1000)
    (h1 : LW M l e v x → Q (nI 1)) (h0 : ¬ LW M l e v x → Q (nI 0)) : p_X2_leadsAtWeight N c0 ps (nI (M 0)) qs ws scs ties tr (nI v) (nI l) (nI e) (nI x) Q := by
  have h16 := hW.1
  have hb := sW_le hW hl he hv hx
  have main : ∀ (K1 : Int32 → Int32 → Prop) (K2 : Int32 → Prop), (∀ z y, ¬ LW M l e v x → K1 z y) → ((∀ u, u < M 0 → u ≠ v → ¬ ahd M 0 u (M (10 + 8 * u + 7)) (sW M l e u x) v (M (10 + 8 * v + 7)) (sW M l e v x)) → K2 (nI (M 0))) → ∀ n u, u ≤ M 0 → M 0 - u < n → (∀ w, w < u → w ≠ v → ¬ ahd M 0 w (M (10 + 8 * w + 7)) (sW M l e w x) v (M (10 + 8 * v + 7)) (sW M l e v x)) → p_X2_leadsAtWeight_25 N (nI v) (nI l) (nI e) (nI x) (nI (sW M l e v x)) (nI (M (10 + 8 * v + 7))) c0 ps (nI (M 0)) qs ws scs ties tr K1 K2 n (nI u) := by
    intro K1 K2 k1 k2 n
    induction n with
    | zero => intro u g1 g2; omega
    | succ n ih =>
      intro u g1 g2 g3
      unfold p_X2_leadsAtWeight_25
      simp (disch := omega) only [zl, nS]
      refine ⟨fun h => ?_, fun h => s_scoreOfWeight hN hW hQ (hP u (by omega)) (hC u (by omega)) (hs u (by omega)) hl he (by omega) hx ⟨fun z => ih (u + 1) (by omega) (by omega) (fun w hw hne => g3 w (by omega) hne), fun z => ?_⟩⟩
      · have : u = M 0 := by omega
        subst this
        exact k2 g3
      · have bu := sW_le hW hl he (show u < M 0 by omega) hx
        refine s_isAhead1 (M := M) (es := 0) hN hW hT (by omega) hv (by omega) (by omega) (ht u (by omega)) (ht v hv) (fun hA => ⟨fun z => absurd z (by decide), fun _ => k1 _ _ (fun q => q.2 u (by omega) z hA)⟩) (fun hA => ⟨fun _ => ih (u + 1) (by omega) (by omega) (fun w hw hne => ?_), fun z => absurd rfl z⟩)
        by_cases q : w = u
        · rw [q]; exact hA
        · exact g3 w (by omega) hne
  unfold p_X2_leadsAtWeight
  simp only [zl]
  refine s_scoreOfWeight hN hW hQ (hP v hv) (hC v hv) (hs v hv) hl he hv hx ?_
  simp (disch := omega) only [nS]
  rw [hQ v hv]
  refine ⟨by omega, main _ _ (fun z y q => h0 q) (fun g => ?_) N 0 (by omega) (by omega) (fun w hw => absurd hw (by omega))⟩
  exact ⟨fun z => h0 (fun q => by have := q.1; omega), fun z => h1 ⟨by omega, g⟩⟩
theorem ahd_up {M : Nat → Nat} {es u qu su su' w qw sw : Nat} (h : ahd M es u qu su w qw sw) (hs : su ≤ su') : ahd M es u qu su' w qw sw := by
  unfold ahd at h ⊢
  rcases h with h | h
  · exact Or.inl (by omega)
  · by_cases q : sw < su'
    · exact Or.inl q
    · exact Or.inr ⟨by omega, h.2⟩
theorem s_leastLeadingWeight {N l e v : Nat} {M : Nat → Nat} {c0 : Int32} {ps qs ws scs ties tr : Nat → Int32} {Q : Int32 → Prop} (hN : 2000 < N) (hW : WF M) (hT : TI M ties) (hQ : QL M qs) (hP : ∀ u, u < M 0 → PC M 0 u ps) (hC : ∀ u, u < M 0 → WC M 0 u ws) (hs : ∀ u, u < M 0 → scs u = nI (scM M 0 u)) (ht : ∀ u, u < M 0 → ∀ i, i < 3 → tr (u * 3 + i) = tR M 0 u (M (10 + 8 * u + 7)) (M (1 + i))) (hl : l < 6) (he : e < M (4 + l)) (hv : v < M 0)
    (hq : Q (nP (lsM (PS M (ec l e + 3) v)))) : p_X2_leastLeadingWeight N c0 ps (nI (M 0)) qs ws scs ties tr (nI l) (nI e) (nI v) Q := by
  have h16 := hW.1
  rw [show lsM (PS M (ec l e + 3) v) = lsM (LW M l e v) from lsF_c 1001 0 (fun z _ => LW_PS hW hl he hv)] at hq
  have main : ∀ n r x b, x + r = 1001 → r < n → b ≤ 1000 → (∀ z, z < x → ¬ LW M l e v z) → (b = 0 ∨ ∃ z, z < x ∧ b = sW M l e v z ∧ ∃ u, u < M 0 ∧ u ≠ v ∧ ahd M 0 u (M (10 + 8 * u + 7)) (sW M l e u z) v (M (10 + 8 * v + 7)) (sW M l e v z)) → p_X2_leastLeadingWeight_6 N (nI l) (nI e) (nI v) c0 ps (nI (M 0)) qs ws scs ties tr (fun _ y _ => Q y) (fun _ _ => Q nM) n (nI b) (nI x) := by
    intro n
    induction n with
    | zero => intro r x b h1 h2; omega
    | succ n ih =>
      intro r x b h1 h2 h3 h4 h5
      unfold p_X2_leastLeadingWeight_6
      simp (disch := omega) only [zl, nS]
      refine ⟨fun z => ?_, fun z => ?_⟩
      · rw [show lsM (LW M l e v) = 0 from lsF_no 1001 0 (fun y hy => h4 y (by omega))] at hq
        exact hq
      · have hb := sW_le hW hl he hv (show x ≤ 1000 by omega)
        obtain ⟨r, rfl⟩ : ∃ r', r = r' + 1 := ⟨r - 1, by omega⟩
        refine s_scoreOfWeight (by omega) hW hQ (hP v hv) (hC v hv) (hs v hv) hl he hv (by omega) ?_
        simp (disch := omega) only [nS]
        refine ⟨fun z2 => ?_, fun z2 => s_leadsAtWeight (by omega) hW hT hQ hP hC hs ht hl he hv (by omega) (fun hL => ⟨fun z => absurd z (by decide), fun _ => ?_⟩) (fun hL => ⟨fun _ => ?_, fun z => absurd rfl z⟩)⟩
        · have hn : ¬ LW M l e v x := by
            intro hL
            rcases h5 with h5 | ⟨z, z1, z3, u, u1, u2, u3⟩
            · have := hL.1; omega
            · have m1 := sW_mono hW hl he (show v < 16 by omega) (show z ≤ x by omega)
              have m2 := sW_mono hW hl he (show u < 16 by omega) (show z ≤ x by omega)
              have e1 : sW M l e v z = sW M l e v x := by omega
              rw [e1] at u3
              exact hL.2 u u1 u2 (ahd_up u3 m2)
          refine ih r (x + 1) b (by omega) (by omega) h3 (fun y hy => ?_) ?_
          · by_cases q : y = x
            · rw [q]; exact hn
            · exact h4 y (by omega)
          · rcases h5 with h5 | ⟨z, z1, z3⟩
            · exact Or.inl h5
            · exact Or.inr ⟨z, by omega, z3⟩
        · rw [show lsM (LW M l e v) = x + 1 from lsF_at 1001 0 (by omega) (by omega) h4 hL, nP_s] at hq
          exact hq
        · refine ih r (x + 1) _ (by omega) (by omega) hb (fun y hy => ?_) (Or.inr ⟨x, by omega, rfl, ?_⟩)
          · by_cases q : y = x
            · rw [q]; exact hL
            · exact h4 y (by omega)
          · refine Classical.byContradiction (fun hn => hL ⟨by omega, fun u hu hne ha => hn ⟨u, hu, hne, ha⟩⟩)
  unfold p_X2_leastLeadingWeight
  simp only [zl]
  exact main N 1001 0 0 rfl (by omega) (by decide) (fun z hz => absurd hz (by omega)) (Or.inl rfl)


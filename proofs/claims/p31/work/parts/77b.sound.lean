/-! the law's check of scores and rankings -/
def rz (M : Nat → Nat) (v : Nat) : Nat → Nat → Nat → Nat
  | 0, _, rs => rs
  | r + 1, l, rs => rz M v r (l + 1) (if rs = 0 ∧ wE M 0 l v = 0 then 1 + l else rs)
theorem rz_n {M : Nat → Nat} {v : Nat} : ∀ (r l rs : Nat), rs ≠ 0 → rz M v r l rs = rs
  | 0, _, _, _ => rfl
  | r + 1, l, rs, h => by
    show rz M v r (l + 1) (if rs = 0 ∧ wE M 0 l v = 0 then 1 + l else rs) = rs
    rw [if_neg (fun q => h q.1)]
    exact rz_n r (l + 1) rs h
theorem rz_f {M : Nat → Nat} {v : Nat} : ∀ (r l : Nat), rsF M v r l = if rz M v r l 0 = 0 then (if M (10 + 8 * v + 7) = 0 then 7 else 8) else rz M v r l 0
  | 0, _ => rfl
  | r + 1, l => by
    show (if wE M 0 l v = 0 then 1 + l else rsF M v r (l + 1)) = if rz M v r (l + 1) (if (0 : Nat) = 0 ∧ wE M 0 l v = 0 then 1 + l else 0) = 0 then (if M (10 + 8 * v + 7) = 0 then 7 else 8) else rz M v r (l + 1) (if (0 : Nat) = 0 ∧ wE M 0 l v = 0 then 1 + l else 0)
    by_cases q : wE M 0 l v = 0
    · have e : (if (0 : Nat) = 0 ∧ wE M 0 l v = 0 then 1 + l else 0) = 1 + l := if_pos ⟨rfl, q⟩
      rw [e, rz_n r (l + 1) (1 + l) (by omega), if_pos q, if_neg (by omega)]
    · have e : (if (0 : Nat) = 0 ∧ wE M 0 l v = 0 then 1 + l else 0) = 0 := if_neg (fun h => q h.2)
      rw [e, if_neg q]
      exact rz_f r (l + 1)
theorem rz_b {M : Nat → Nat} {v : Nat} : ∀ (r l rs : Nat), l + r ≤ 6 → rs ≤ 6 → rz M v r l rs ≤ 6
  | 0, _, _, _, h => h
  | r + 1, l, rs, h1, h2 => rz_b r (l + 1) _ (by omega) (by split <;> omega)
section SD
variable {z : DS}
theorem sd_29 (hW : WF (zM z)) {v : Nat} (hv : v < zM z 0) {K1 : Int32 → Int32 → Int32 → Int32 → Int32 → Prop} {K2 : Int32 → Int32 → Int32 → Prop} : ∀ (r k x rs f : Nat), k + r = 6 → r < f → x ≤ 1000 → rs ≤ 6 → K2 (nI (scF (zM z) 0 v r k x)) (nI (rz (zM z) v r k rs)) (nI 6) → p_L_sound_29 z (nI v) K1 K2 f (nI x) (nI rs) (nI k) := by
  intro r
  induction r with
  | zero =>
    intro k x rs f hk hf hx hr hK
    obtain ⟨f, rfl⟩ : ∃ g, f = g + 1 := ⟨f - 1, by omega⟩
    obtain rfl : k = 6 := by omega
    exact brt (by decide) hK
  | succ r ih =>
    intro k x rs f hk hf hx hr hK
    obtain ⟨f, rfl⟩ : ∃ g, f = g + 1 := ⟨f - 1, by omega⟩
    have h16 := hW.1
    have hw := wE_le hW (es := 0) (l := k) (v := v) (by omega)
    have hb := sc_b hx hw
    have hp := plW_le (zM z) k v
    have h10 := hW.2.1 k (by omega)
    have ewk : wE (zM z) 0 k v = if plW (zM z) k v = 0 then (if zM z (4 + k) = 0 then 1000 else if k % 3 = 2 ∧ zM z (10 + 8 * v + 5) = 1768161280 then 1000 else 0) else zM z (ec k (plW (zM z) k v - 1) + 3) := if_neg (by omega)
    have step : ∀ rs', rs' ≤ 6 → rz (zM z) v (r + 1) k rs = rz (zM z) v r (k + 1) rs' → p_L_sound_j96 z (nI k) (nI v) K1 (nI x) (p_L_sound_29 z (nI v) K1 K2 f) (nI rs') := by
      intro rs' hrs e
      have go : p_L_sound_29 z (nI v) K1 K2 f (nI (x * wE (zM z) 0 k v / 1000)) (nI rs') (nI (k + 1)) := ih (k + 1) _ rs' f (by omega) (by omega) hb.2 hrs (by rw [← e]; exact hK)
      have j136 : (plW (zM z) k v = 0 → wE (zM z) 0 k v = 0 ∨ wE (zM z) 0 k v = 1000) → p_L_sound_j136 z (nI k) (nI v) (p_L_sound_29 z (nI v) K1 K2 f) (nI x) (nI rs') K1 := by
        intro hpl
        unfold p_L_sound_j136
        simp (disch := omega) only [zl, nS, nSm, qw_k hW, qc_k hW]
        by_cases q : plW (zM z) k v = 0
        · rw [q, nP_0]
          simp (disch := omega) only [nS, nSm]
          refine brf not_false (bnt trivial ?_)
          rcases hpl q with e1 | e1
          · exact brt e1 go
          · exact brf (by omega) (brt e1 go)
        · rw [nP_p q]
          simp (disch := omega) only [nS]
          exact brt (by omega) go
      unfold p_L_sound_j96
      simp (disch := omega) only [zl, nS, nSm, qw_k hW, qc_k hW]
      refine brf (by omega) (brf (by omega) ?_)
      by_cases q : plW (zM z) k v = 0
      · have q2 : wE (zM z) 0 k v = 0 ∨ wE (zM z) 0 k v = 1000 := by
          rw [ewk, if_pos q]
          split
          · exact Or.inr rfl
          · split
            · exact Or.inr rfl
            · exact Or.inl rfl
        rw [q, nP_0]
        exact brt (by decide) (j136 (fun _ => q2))
      · rw [nP_p q]
        simp (disch := omega) only [nS, qe_k hW]
        refine brf (by omega) (bnt ?_ (j136 (fun q' => absurd q' q)))
        rw [ewk, if_neg q]
        rfl
    have h6 : ¬ (6 : Int32) ≤ nI k := by
      simp (disch := omega) only [zl, nS]
      omega
    refine brf h6 ?_
    by_cases q0 : rs = 0
    · subst q0
      refine bnt rfl ?_
      simp (disch := omega) only [zl, nS, qw_k hW]
      by_cases q1 : wE (zM z) 0 k v = 0
      · refine bnt q1 (step (1 + k) (by omega) ?_)
        show rz (zM z) v r (k + 1) (if (0 : Nat) = 0 ∧ wE (zM z) 0 k v = 0 then 1 + k else 0) = _
        rw [if_pos ⟨rfl, q1⟩]
      · refine bnf q1 (step 0 (by omega) ?_)
        show rz (zM z) v r (k + 1) (if (0 : Nat) = 0 ∧ wE (zM z) 0 k v = 0 then 1 + k else 0) = _
        rw [if_neg (fun h => q1 h.2)]
    · refine bnf (by rw [zl.1]; exact fun e => q0 (nI_u e (by omega) (by omega))) (step rs hr ?_)
      show rz (zM z) v r (k + 1) (if rs = 0 ∧ wE (zM z) 0 k v = 0 then 1 + k else rs) = _
      rw [if_neg (fun h => q0 h.1)]
end SD
theorem plI_at {f : Nat → Nat} {v p : Nat} : ∀ n, plI f v n = p + 1 → p < n ∧ f p = v
  | 0, h => absurd h (by show ¬ (0 = p + 1); omega)
  | n + 1, h => by
    have h : (if f n = v then n + 1 else plI f v n) = p + 1 := h
    by_cases q : f n = v
    · rw [if_pos q] at h
      obtain rfl : n = p := by omega
      exact ⟨by omega, q⟩
    · rw [if_neg q] at h
      have := plI_at n h
      exact ⟨by omega, this.2⟩
section SE
variable {z : DS}
theorem sd_list (hW : WF (zM z)) {v : Nat} (hv : v < zM z 0) : ∃ p, p < zM z 0 ∧ q_variant z (nI v) (nI 5) = nI p ∧ q_listed z (nI p) = nI v := by
  have h16 := hW.1
  have hs : ∃ i, i < zM z 0 ∧ roM (zM z) i = v := by
    have := (rk_SR (bM_TO (zM z)) trP (zM z 0)).2.1 v ⟨hv, trivial⟩
    rw [rk_all] at this
    exact this
  have h0 := plI_pos (zM z 0) hs
  obtain ⟨p, hp⟩ : ∃ p, plI (roM (zM z)) v (zM z 0) = p + 1 := ⟨plI (roM (zM z)) v (zM z 0) - 1, by omega⟩
  obtain ⟨a, b⟩ := plI_at _ hp
  refine ⟨p, a, ?_, ?_⟩
  · rw [q_variant_ok hW hv (by omega)]
    show nP (plI (roM (zM z)) v (zM z 0)) = nI p
    rw [hp, nP_s]
  · rw [q_listed_ok (by omega), if_pos a, b]
/-- a variant's place in the ranking -/
theorem sd_rank (hW : WF (zM z)) {v : Nat} (hv : v < zM z 0) : (scM (zM z) 0 v = 0 ∧ q_variant z (nI v) (nI 4) = nM) ∨ (0 < scM (zM z) 0 v ∧ ∃ p, p < 16 ∧ q_variant z (nI v) (nI 4) = nI p ∧ q_ranked z (nI p) = nI v) := by
  have h16 := hW.1
  have hsr := rk_SR (aM_TO (zM z) 0) (inM (zM z) 0 0) (zM z 0)
  have hn := (rkM_lt (zM z) 0 0).1
  by_cases q : scM (zM z) 0 v = 0
  · refine Or.inl ⟨q, ?_⟩
    rw [q_variant_ok hW hv (by omega)]
    show nP (plI (rkM (zM z) 0 0).2 v (rkM (zM z) 0 0).1) = nM
    by_cases q2 : plI (rkM (zM z) 0 0).2 v (rkM (zM z) 0 0).1 = 0
    · rw [q2, nP_0]
    · obtain ⟨p, hp⟩ : ∃ p, plI (rkM (zM z) 0 0).2 v (rkM (zM z) 0 0).1 = p + 1 := ⟨plI (rkM (zM z) 0 0).2 v (rkM (zM z) 0 0).1 - 1, by omega⟩
      obtain ⟨a, b⟩ := plI_at _ hp
      have := (hsr.1 p a).2.1
      rw [show (rk (aM (zM z) 0) (inM (zM z) 0 0) (zM z 0)).2 p = v from b] at this
      omega
  · refine Or.inr ⟨by omega, ?_⟩
    have h0 := plI_pos (f := (rkM (zM z) 0 0).2) (rkM (zM z) 0 0).1 (hsr.2.1 v ⟨hv, by omega, by omega⟩)
    obtain ⟨p, hp⟩ : ∃ p, plI (rkM (zM z) 0 0).2 v (rkM (zM z) 0 0).1 = p + 1 := ⟨plI (rkM (zM z) 0 0).2 v (rkM (zM z) 0 0).1 - 1, by omega⟩
    obtain ⟨a, b⟩ := plI_at _ hp
    refine ⟨p, by omega, ?_, ?_⟩
    · rw [q_variant_ok hW hv (by omega)]
      show nP (plI (rkM (zM z) 0 0).2 v (rkM (zM z) 0 0).1) = nI p
      rw [hp, nP_s]
    · rw [q_ranked_ok (by omega), if_pos a, b]
theorem rsM_b {M : Nat → Nat} {v : Nat} : rsM M v ≤ 8 := by
  unfold rsM
  split
  · rw [rz_f]
    have := rz_b (M := M) (v := v) 6 0 0 (by omega) (by omega)
    split
    · split <;> omega
    · omega
  · omega
theorem lnM_b (M : Nat → Nat) (v : Nat) : 1 ≤ lnM M v ∧ lnM M v ≤ 3 := by
  unfold lnM
  split
  · split <;> omega
  · omega
theorem sd_j287 (hW : WF (zM z)) {v g y s rs : Nat} (hv : v < zM z 0) {K : Int32 → Int32 → Int32 → Int32 → Int32 → Prop} {B : Int32 → Int32 → Prop} (h : B (nI (g + y)) (nI (v + 1))) : p_L_sound_j287 z (nI v) K (nI g) (nI y) (nI s) (nI rs) B := by
  have h16 := hW.1
  obtain ⟨p, hp, e1, e2⟩ := sd_list hW hv
  have hl := lnM_b (zM z) v
  have e6 : q_variant z (nI v) (nI 6) = nI (lnM (zM z) v) := q_variant_ok hW hv (by omega)
  unfold p_L_sound_j287
  simp (disch := omega) only [zl, nS, e1, e2, e6]
  exact bnt trivial (brf (by omega) (brt (by omega) h))
theorem sd_j224 (hW : WF (zM z)) {v g y s : Nat} (hv : v < zM z 0) (hs : s = scM (zM z) 0 v) {K : Int32 → Int32 → Int32 → Int32 → Int32 → Prop} {B : Int32 → Int32 → Prop} (h : B (nI (g + y)) (nI (v + 1))) : p_L_sound_j224 z (nI v) (nI s) K (nI g) (nI (rsM (zM z) v)) B (nI y) := by
  have h16 := hW.1
  have e2 : q_variant z (nI v) (nI 2) = nI s := by rw [hs]; exact q_variant_ok hW hv (by omega)
  have e3 : q_variant z (nI v) (nI 3) = nI (rsM (zM z) v) := q_variant_ok hW hv (by omega)
  have hsl := scM_le hW (es := 0) hv
  unfold p_L_sound_j224
  simp only [zl, e2, e3]
  refine bnt (by trivial) (bnt (by trivial) ?_)
  rcases sd_rank hW hv with ⟨h0, e4⟩ | ⟨h0, p, hp, e4, e5⟩
  · rw [e4]
    refine bnt nM_e.symm ?_
    unfold p_L_sound_j259
    refine bnt (by rw [hs, h0]; rfl) ?_
    unfold p_L_sound_j269
    simp only [zl, e4]
    exact bnt (by trivial) (brt (by simp (disch := omega) only [nSm]) (sd_j287 hW hv h))
  · rw [e4]
    refine bnf (by rw [nM_e]; simp (disch := omega) only [nSm]; exact not_false) ?_
    unfold p_L_sound_j259
    refine bnf (by rw [zl.1]; exact fun e => by have := nI_u e (by omega) (by omega); omega) ?_
    unfold p_L_sound_j269
    simp only [zl, e4, e5]
    exact bnt (by trivial) (brf (by simp (disch := omega) only [nS]; omega) (bnt (by trivial) (sd_j287 hW hv h)))
theorem sd_10 (hW : WF (zM z)) {K1 : Int32 → Int32 → Int32 → Int32 → Int32 → Int32 → Int32 → Prop} {K2 : Int32 → Int32 → Int32 → Int32 → Int32 → Prop} {K3 : Int32 → Int32 → Prop} : ∀ (r v f : Nat), v + r = zM z 0 → r < f → K3 (nI (rkM (zM z) 0 0).1) (nI (zM z 0)) → p_L_sound_10 (nI (zM z 0)) z K1 K2 K3 f (nI (rk (aM (zM z) 0) (inM (zM z) 0 0) v).1) (nI v) := by
  intro r
  induction r with
  | zero =>
    intro v f hv hf hK
    obtain ⟨f, rfl⟩ : ∃ g, f = g + 1 := ⟨f - 1, by omega⟩
    obtain rfl : v = zM z 0 := by omega
    exact brt (by rw [Int32.le_iff_toInt_le]; omega) hK
  | succ r ih =>
    intro v f hv hf hK
    obtain ⟨f, rfl⟩ : ∃ g, f = g + 1 := ⟨f - 1, by omega⟩
    have h16 := hW.1
    have hlt : v < zM z 0 := by omega
    have hq := (hW.2.2.2.1 v hlt).2.2.2.2
    have hsl := scM_le hW (es := 0) hlt
    have e1 : q_variant z (nI v) (nI 1) = nI (zM z (10 + 8 * v + 7)) := q_variant_ok hW hlt (by omega)
    have hrz := rz_b (M := zM z) (v := v) 6 0 0 (by omega) (by omega)
    have hrk := (rk_lt (aM (zM z) 0) (inM (zM z) 0 0) v).1
    have ih' := ih (v + 1) f (by omega) (by omega) hK
    have nx : p_L_sound_j203 (nI (scM (zM z) 0 v)) z (nI v) K2 (nI (rk (aM (zM z) 0) (inM (zM z) 0 0) v).1) (p_L_sound_10 (nI (zM z 0)) z K1 K2 K3 f) (nI (rsM (zM z) v)) := by
      unfold p_L_sound_j203
      simp (disch := omega) only [zl, nS]
      by_cases q : scM (zM z) 0 v ≤ 0
      · refine brt q (sd_j224 hW hlt rfl ?_)
        rw [rk_f (fun (h : inM (zM z) 0 0 v) => by have := h.1; omega)] at ih'
        exact ih'
      · refine brf q (sd_j224 hW hlt rfl ?_)
        rw [rk_t (show inM (zM z) 0 0 v from ⟨by omega, by omega⟩)] at ih'
        exact ih'
    have h6 : ¬ nI (zM z 0) ≤ nI v := by
      simp (disch := omega) only [nS]
      omega
    refine brf h6 ?_
    rw [show ((1 : Int32)) = nI 1 from rfl, e1]
    refine sd_29 hW hlt 6 0 _ 0 7 (by omega) (by omega) hq (by omega) ?_
    show (nI (scM (zM z) 0 v) ≤ 0 → _) ∧ (¬ nI (scM (zM z) 0 v) ≤ 0 → _)
    rw [show (nI (scM (zM z) 0 v) ≤ 0) = (scM (zM z) 0 v ≤ 0) from nS.2.2.2.2.2.2.2.1 _ 0 (by omega) (by omega), show (nI (rz (zM z) v 6 0 0) ≤ 0) = (rz (zM z) v 6 0 0 ≤ 0) from nS.2.2.2.2.2.2.2.1 _ 0 (by omega) (by omega), show (nI (zM z (10 + 8 * v + 7)) = 0) = (zM z (10 + 8 * v + 7) = 0) from nS.2.2.2.2.2.2.2.2.2.1 _ 0 (by omega) (by omega)]
    by_cases q : scM (zM z) 0 v ≤ 0
    · refine brt q ?_
      have er : rsM (zM z) v = if rz (zM z) v 6 0 0 = 0 then (if zM z (10 + 8 * v + 7) = 0 then 7 else 8) else rz (zM z) v 6 0 0 := by
        unfold rsM
        rw [if_pos q]
        exact rz_f 6 0
      by_cases q2 : rz (zM z) v 6 0 0 = 0
      · rw [if_pos q2] at er
        refine brt (by omega) ?_
        by_cases q3 : zM z (10 + 8 * v + 7) = 0
        · rw [if_pos q3] at er
          rw [er] at nx
          exact bnt q3 nx
        · rw [if_neg q3] at er
          rw [er] at nx
          exact bnf q3 nx
      · rw [if_neg q2] at er
        rw [er] at nx
        exact brf (by omega) nx
    · refine brf q ?_
      have er : rsM (zM z) v = 0 := if_neg q
      rw [er] at nx
      exact nx
theorem sd_place (hW : WF (zM z)) {rule v : Nat} (hr : rule = 3 ∨ rule = 4) (hv : v < zM z 0) {Q : Int32 → Prop} (h : Q (nI (tP (zM z) 0 (rule - 3) v))) : p_L_place z (nI rule) (nI v) Q := by
  have h16 := hW.1
  have hp := plW_le (zM z) (rule - 3) v
  have h10 := hW.2.1 (rule - 3) (by omega)
  have et : tP (zM z) 0 (rule - 3) v = if plW (zM z) (rule - 3) v = 0 then 100 else plW (zM z) (rule - 3) v - 1 := if_neg (by omega)
  have ec : q_counting z (nI 0) (nI (rule - 3)) (nI v) = nP (plW (zM z) (rule - 3) v) := by
    rw [q_counting_ok hW (by omega) (by omega) hv, Nat.zero_mul, Nat.zero_add]
  unfold p_L_place
  simp (disch := omega) only [zl, nS, ec]
  rw [et] at h
  by_cases q : plW (zM z) (rule - 3) v = 0
  · rw [if_pos q] at h
    rw [q, nP_0]
    exact brf (by simp (disch := omega) only [nSm]; exact not_false) h
  · rw [if_neg q] at h
    rw [nP_p q]
    exact brt (by simp (disch := omega) only [nS]; omega) h
theorem sd_333 (hW : WF (zM z)) {K1 : Int32 → Int32 → Int32 → Int32 → Int32 → Int32 → Prop} {K2 : Int32 → Prop} (hK : ∀ x, K2 x) : ∀ (r p f : Nat), 1 ≤ p → p ≤ 17 → (rkM (zM z) 0 0).1 ≤ p + r → r < f → p_L_sound_333 (nI (rkM (zM z) 0 0).1) z K1 K2 f (nI p) := by
  intro r
  induction r with
  | zero =>
    intro p f hp hp2 hr hf
    obtain ⟨f, rfl⟩ : ∃ g, f = g + 1 := ⟨f - 1, by omega⟩
    have h16 := hW.1
    have hg := (rkM_lt (zM z) 0 0).1
    exact brt (by simp (disch := omega) only [nS]; omega) (hK _)
  | succ r ih =>
    intro p f hp hp2 hr hf
    obtain ⟨f, rfl⟩ : ∃ g, f = g + 1 := ⟨f - 1, by omega⟩
    have h16 := hW.1
    have hg := (rkM_lt (zM z) 0 0).1
    by_cases hend : (rkM (zM z) 0 0).1 ≤ p
    · exact brt (by simp (disch := omega) only [nS]; omega) (hK _)
    have ih' : p_L_sound_333 (nI (rkM (zM z) 0 0).1) z K1 K2 f (nI (p + 1)) := ih (p + 1) f (by omega) (by omega) (by omega) (by omega)
    generalize hB : p_L_sound_333 (nI (rkM (zM z) 0 0).1) z K1 K2 f = B at ih'
    have hsr := rk_SR (aM_TO (zM z) 0) (inM (zM z) 0 0) (zM z 0)
    obtain ⟨a, ha⟩ : ∃ a, (rkM (zM z) 0 0).2 (p - 1) = a := ⟨_, rfl⟩
    obtain ⟨b, hb⟩ : ∃ b, (rkM (zM z) 0 0).2 p = b := ⟨_, rfl⟩
    have hal : a < zM z 0 := by rw [← ha]; exact (rkM_lt (zM z) 0 0).2 _ (by omega)
    have hbl : b < zM z 0 := by rw [← hb]; exact (rkM_lt (zM z) 0 0).2 _ (by omega)
    have hab : aM (zM z) 0 a b := by
      rw [← ha, ← hb]
      exact hsr.2.2 (p - 1) p (by omega) (show p < (rkM (zM z) 0 0).1 by omega)
    have ra : q_ranked z (nI (p - 1)) = nI a := by rw [q_ranked_ok (by omega), if_pos (by omega), ha]
    have rb : q_ranked z (nI p) = nI b := by rw [q_ranked_ok (by omega), if_pos (by omega), hb]
    have sa : q_variant z (nI a) (nI 2) = nI (scM (zM z) 0 a) := q_variant_ok hW hal (by omega)
    have sb : q_variant z (nI b) (nI 2) = nI (scM (zM z) 0 b) := q_variant_ok hW hbl (by omega)
    have hsa := scM_le hW (es := 0) hal
    have hsb := scM_le hW (es := 0) hbl
    have w7 : q_whole z (nI 7) = nI (zM z 1) := q_whole_ok (by omega)
    have w8 : q_whole z (nI 8) = nI (zM z 2) := q_whole_ok (by omega)
    have w9 : q_whole z (nI 9) = nI (zM z 3) := q_whole_ok (by omega)
    have m1 : zM z 1 ≤ 5 := hW.2.2.1 0 (by omega)
    have m2 : zM z 2 ≤ 5 := hW.2.2.1 1 (by omega)
    have m3 : zM z 3 ≤ 5 := hW.2.2.1 2 (by omega)
    have qa := (hW.2.2.2.1 a hal).2.2.2
    have qb := (hW.2.2.2.1 b hbl).2.2.2
    have ba := tR_b hW (es := 0) (q := zM z (10 + 8 * a + 7)) (rule := zM z 1) hal qa.2
    have bb := tR_b hW (es := 0) (q := zM z (10 + 8 * b + 7)) (rule := zM z 1) hbl qb.2
    have hj : ∀ (fl : Nat) (y : Int32), (fl = if scM (zM z) 0 a = scM (zM z) 0 b then 1 else 0) → y.toInt = (tR (zM z) 0 a (zM z (10 + 8 * a + 7)) (zM z 1)).toInt - (tR (zM z) 0 b (zM z (10 + 8 * b + 7)) (zM z 1)).toInt → p_L_sound_j484 z (nI p) K1 (nI fl) B y := by
      intro fl y hfl hy
      have hfl1 : fl ≤ 1 := by
        rw [hfl]
        split <;> omega
      have hle : ¬ scM (zM z) 0 a < scM (zM z) 0 b := by
        rcases hab with h | h
        · omega
        · omega
      have hz : fl ≠ 0 → tie (zM z) 0 a (zM z (10 + 8 * a + 7)) b (zM z (10 + 8 * b + 7)) 3 0 := by
        intro h
        rcases hab with h1 | h1
        · rw [if_neg (by omega)] at hfl
          omega
        · exact h1.2
      have go : B (nI p + nI 1) := by
        rw [nS.1]
        exact ih'
      have j513 : (fl ≠ 0 → y = nI 0 → zM z 2 = 0 → zM z 3 = 0 → a < b) → p_L_sound_j513 (nI fl) B (nI p) y z K1 := by
        intro hx
        unfold p_L_sound_j513
        simp (disch := omega) only [zl, nS, w8, w9, ra, rb]
        by_cases c1 : fl = 0
        · exact brt c1 ih'
        · refine brf c1 ?_
          by_cases c2 : y = nI 0
          · refine bnt c2 ?_
            by_cases c3 : zM z 2 = 0
            · refine bnt c3 ?_
              by_cases c4 : zM z 3 = 0
              · have := hx c1 c2 c3 c4
                exact bnt c4 (brt (by omega) ih')
              · exact bnf c4 ih'
            · exact bnf c3 ih'
          · exact bnf c2 ih'
      unfold p_L_sound_j484
      simp (disch := omega) only [zl, nS, w8, w9, ra, rb, sa, sb]
      refine brf hle ?_
      by_cases c1 : fl = 0
      · exact brt c1 (j513 (fun h => absurd c1 h))
      · refine brf c1 ?_
        obtain ⟨t1, t2⟩ := hz c1
        have hlt : ¬ (nI 0 < y) := by
          intro h
          rw [Int32.lt_iff_toInt_lt, nI_t (by omega)] at h
          by_cases e : tR (zM z) 0 a (zM z (10 + 8 * a + 7)) (zM z (1 + 0)) = tR (zM z) 0 b (zM z (10 + 8 * b + 7)) (zM z (1 + 0))
          · have e' : tR (zM z) 0 a (zM z (10 + 8 * a + 7)) (zM z 1) = tR (zM z) 0 b (zM z (10 + 8 * b + 7)) (zM z 1) := e
            rw [e'] at hy
            omega
          · have := t2 e
            rw [Int32.lt_iff_toInt_lt] at this
            have e' : (tR (zM z) 0 a (zM z (10 + 8 * a + 7)) (zM z 1)).toInt < (tR (zM z) 0 b (zM z (10 + 8 * b + 7)) (zM z 1)).toInt := this
            omega
        refine brf hlt (j513 ?_)
        intro _ hy0 c3 c4
        have e : tR (zM z) 0 a (zM z (10 + 8 * a + 7)) (zM z (1 + 0)) = tR (zM z) 0 b (zM z (10 + 8 * b + 7)) (zM z (1 + 0)) := by
          apply Int32.toInt_inj.mp
          rw [hy0, nI_t (by omega)] at hy
          show (tR (zM z) 0 a (zM z (10 + 8 * a + 7)) (zM z 1)).toInt = (tR (zM z) 0 b (zM z (10 + 8 * b + 7)) (zM z 1)).toInt
          omega
        have h2 := t1 e
        have z2 : zM z (1 + 1) = 0 := c3
        have z3 : zM z (1 + 2) = 0 := c4
        have h3 := h2.1 (by show tR _ _ _ _ (zM z (1 + 1)) = tR _ _ _ _ (zM z (1 + 1)); rw [z2]; rfl)
        exact h3.1 (by show tR _ _ _ _ (zM z (1 + 2)) = tR _ _ _ _ (zM z (1 + 2)); rw [z3]; rfl)
    have j376 : ∀ fl : Nat, (fl = if scM (zM z) 0 a = scM (zM z) 0 b then 1 else 0) → p_L_sound_j376 z (nI p) K1 B (nI fl) := by
      intro fl hfl
      have v0a : q_variant z (nI a) (nI 0) = nI (zM z (10 + 8 * a + 6)) := q_variant_ok hW hal (by omega)
      have v0b : q_variant z (nI b) (nI 0) = nI (zM z (10 + 8 * b + 6)) := q_variant_ok hW hbl (by omega)
      have v1a : q_variant z (nI a) (nI 1) = nI (zM z (10 + 8 * a + 7)) := q_variant_ok hW hal (by omega)
      have v1b : q_variant z (nI b) (nI 1) = nI (zM z (10 + 8 * b + 7)) := q_variant_ok hW hbl (by omega)
      unfold p_L_sound_j376
      simp (disch := omega) only [zl, w7, ra, rb, v0a, v0b, v1a, v1b, nS.2.2.1]
      simp (disch := omega) only [w7, ra, rb, v0a, v0b, v1a, v1b, nS.2.2.2.2.2.2.2.2.2.1]
      by_cases c1 : zM z 1 = 1
      · refine bnt c1 (hj fl _ hfl ?_)
        rw [c1, pk_sub_toInt (by omega) (by omega)]
        show _ = (nI (zM z (10 + 8 * a + 6))).toInt - (nI (zM z (10 + 8 * b + 6))).toInt
        rw [nI_t (by omega), nI_t (by omega)]
      refine bnf c1 ?_
      by_cases c2 : zM z 1 = 2
      · refine bnt c2 (hj fl _ hfl ?_)
        rw [c2, pk_sub_toInt (by omega) (by omega)]
        show _ = (-nI (zM z (10 + 8 * a + 6))).toInt - (-nI (zM z (10 + 8 * b + 6))).toInt
        rw [neg_t (by omega), neg_t (by omega)]
        omega
      refine bnf c2 ?_
      by_cases c5 : zM z 1 = 5
      · refine bnt c5 (hj fl _ hfl ?_)
        rw [c5, pk_sub_toInt (by omega) (by omega)]
        show _ = (-nI (zM z (10 + 8 * a + 7))).toInt - (-nI (zM z (10 + 8 * b + 7))).toInt
        rw [neg_t (by omega), neg_t (by omega)]
        omega
      refine bnf c5 ?_
      by_cases c0 : zM z 1 = 0
      · refine bnt c0 (hj fl _ hfl ?_)
        rw [c0]
        show (nI 0).toInt = (nI 0).toInt - (nI 0).toInt
        rfl
      refine bnf c0 ?_
      have h34 : zM z 1 = 3 ∨ zM z 1 = 4 := by omega
      have ta := tP_le hW (es := 0) (k := zM z 1 - 3) (v := a) (by omega)
      have tb := tP_le hW (es := 0) (k := zM z 1 - 3) (v := b) (by omega)
      refine sd_place hW h34 hal (sd_place hW h34 hbl (hj fl _ hfl ?_))
      rw [pk_sub_toInt (by omega) (by omega)]
      rcases h34 with c | c
      · rw [c]
        show _ = (nI (tP (zM z) 0 0 a)).toInt - (nI (tP (zM z) 0 0 b)).toInt
        rw [c] at ta tb
        rw [nI_t (Nat.lt_of_le_of_lt ta (by decide)), nI_t (Nat.lt_of_le_of_lt tb (by decide))]
      · rw [c]
        show _ = (nI (tP (zM z) 0 1 a)).toInt - (nI (tP (zM z) 0 1 b)).toInt
        rw [c] at ta tb
        rw [nI_t (Nat.lt_of_le_of_lt ta (by decide)), nI_t (Nat.lt_of_le_of_lt tb (by decide))]
    have hne : ¬ nI (rkM (zM z) 0 0).1 ≤ nI p := by
      simp (disch := omega) only [nS]
      omega
    refine brf hne ?_
    rw [hB]
    simp (disch := omega) only [zl, nS.2.2.1]
    simp (disch := omega) only [ra, rb, sa, sb, nS.2.2.2.2.2.2.2.2.2.1]
    by_cases e : scM (zM z) 0 a = scM (zM z) 0 b
    · exact bnt e (j376 1 (by rw [if_pos e]))
    · exact bnf e (j376 0 (by rw [if_neg e]))
theorem p_sound_ok (hI : INV z) {Q : Int32 → Prop} (hQ : Q (nI 1)) : p_L_sound z Q := by
  have hW := hI.1
  have h16 := hW.1
  have hg := rkM_lt (zM z) 0 0
  have w0 : q_whole z (nI 0) = nI (zM z 0) := q_whole_ok (by omega)
  have w1 : q_whole z (nI 1) = nI (rkM (zM z) 0 0).1 := q_whole_ok (by omega)
  have w2 : q_whole z (nI 2) = nP (fiM (zM z) 0 0) := q_whole_ok (by omega)
  have w3 : q_whole z (nI 3) = nI (if (rkM (zM z) 0 0).1 = 0 then 0 else scM (zM z) 0 ((rkM (zM z) 0 0).2 0)) := q_whole_ok (by omega)
  have rg : q_ranked z (nI (rkM (zM z) 0 0).1) = nM := by rw [q_ranked_ok (by omega), if_neg (by omega)]
  have r0 : q_ranked z (nI 0) = nP (fiM (zM z) 0 0) := by
    rw [q_ranked_ok (by omega)]
    exact fiM_at
  have ln : q_listed z (nI (zM z 0)) = nM := by rw [q_listed_ok (by omega), if_neg (by omega)]
  unfold p_L_sound
  simp only [zl, w0]
  refine sd_10 hW (zM z 0) 0 17 (by omega) (by omega) ?_
  refine sd_333 hW (fun x => ?_) 16 1 17 (by omega) (by omega) (by omega) (by omega)
  simp only [w1, w2, rg, r0, ln]
  refine bnt (by trivial) (bnt nM_e.symm (bnt nM_e.symm (bnt (by trivial) ?_)))
  have j617 : ∀ y, y = q_whole z (nI 3) → p_L_sound_j617 z Q y := by
    intro y hy
    subst hy
    unfold p_L_sound_j617
    simp only [zl]
    refine bnt (by trivial) ?_
    have s0 : q_servedFor z (nI 0) = nP (fiM (zM z) 2 0) := q_servedFor_ok (by omega)
    have s1 : q_servedFor z (nI 1) = nP (fiM (zM z) 1 0) := q_servedFor_ok (by omega)
    rw [s0, s1]
    by_cases e : nP (fiM (zM z) 2 0) = nP (fiM (zM z) 1 0)
    · refine bnt e ?_
      unfold p_L_sound_j642
      exact bnt (if_pos e) hQ
    · refine bnf e ?_
      unfold p_L_sound_j642
      exact bnt (if_neg e) hQ
  by_cases q : (rkM (zM z) 0 0).1 = 0
  · have e : fiM (zM z) 0 0 = 0 := fi_0 q
    rw [e, nP_0]
    refine brf (by simp (disch := omega) only [nSm]; exact not_false) (j617 _ ?_)
    rw [w3, if_pos q]
  · have e : fiM (zM z) 0 0 = (rkM (zM z) 0 0).2 0 + 1 := fi_p q
    have hv := hg.2 0 (by omega)
    rw [e, nP_s]
    refine brt (by simp (disch := omega) only [nS]; omega) (j617 _ ?_)
    rw [w3, if_neg q]
    exact q_variant_ok hW hv (by omega)
end SE

/-! both sides exchanged -/
def sw (l : Nat) : Nat := if l < 3 then l + 3 else l - 3
theorem sw_3 {l : Nat} (hl : l < 6) : sw l < 6 ∧ sw l % 3 = l % 3 ∧ (l < 3 ↔ ¬ sw l < 3) := by
  unfold sw
  split <;> omega
section SW
variable {M : Nat → Nat}
theorem swp_lo {j : Nat} (h : j < 4 ∨ (10 ≤ j ∧ j < 138)) : swpS M j = M j := by
  unfold swpS
  rw [if_neg (by omega), if_neg (by omega), if_neg (by omega), if_neg (by omega)]
theorem swp_len {l : Nat} (hl : l < 6) : swpS M (4 + l) = M (4 + sw l) := by
  unfold swpS sw
  by_cases q : l < 3
  · rw [if_pos (by omega), if_pos q, show 4 + l + 3 = 4 + (l + 3) by omega]
  · rw [if_neg (by omega), if_pos (by omega), if_neg q, show 4 + l - 3 = 4 + (l - 3) by omega]
theorem swp_ec {l e i : Nat} (hl : l < 6) (he : e < 10) (hi : i < 4) : swpS M (ec l e + i) = M (ec (sw l) e + i) := by
  unfold swpS sw ec
  by_cases q : l < 3
  · rw [if_neg (by omega), if_neg (by omega), if_pos (by omega), if_pos q, show 138 + 40 * l + 4 * e + i + 120 = 138 + 40 * (l + 3) + 4 * e + i by omega]
  · rw [if_neg (by omega), if_neg (by omega), if_neg (by omega), if_pos (by omega), if_neg q, show 138 + 40 * l + 4 * e + i - 120 = 138 + 40 * (l - 3) + 4 * e + i by omega]
theorem swp_vc {v k i : Nat} (hv : v < 16) (hk : k < 3) (hi : i < 3) : vc (swpS M) v k i = vc M v k i := by
  unfold vc vo
  refine swp_lo (Or.inr ?_)
  split
  · omega
  · split <;> omega
theorem swp_fit {l e v : Nat} (hl : l < 6) (he : e < 10) (hv : v < 16) : (fitE (swpS M) l e v ↔ fitE M (sw l) e v) ∧ cnE (swpS M) l e = cnE M (sw l) e := by
  have e0 := swp_ec (M := M) (i := 0) hl he (by omega)
  have e1 := swp_ec (M := M) (i := 1) hl he (by omega)
  have e2 := swp_ec (M := M) (i := 2) hl he (by omega)
  have v0 := swp_vc (M := M) (v := v) (k := l % 3) (i := 0) hv (by omega) (by omega)
  have v1 := swp_vc (M := M) (v := v) (k := l % 3) (i := 1) hv (by omega) (by omega)
  have v2 := swp_vc (M := M) (v := v) (k := l % 3) (i := 2) hv (by omega) (by omega)
  have h3 := (sw_3 hl).2.1
  rw [Nat.add_zero, Nat.add_zero] at e0
  unfold fitE cnE
  rw [e0, e1, e2, v0, v1, v2, h3]
  exact ⟨Iff.rfl, rfl⟩
theorem swp_pl {l v : Nat} (hl : l < 6) (hv : v < 16) : ∀ (r e p s : Nat), e + r ≤ 10 → pl (swpS M) l v r e p s = pl M (sw l) v r e p s
  | 0, _, _, _, _ => rfl
  | r + 1, e, p, s, h => by
    obtain ⟨h1, h2⟩ := swp_fit (M := M) (e := e) hl (by omega) hv
    show (if fitE (swpS M) l e v ∧ s < cnE (swpS M) l e + 1 then pl (swpS M) l v r (e + 1) (e + 1) (cnE (swpS M) l e + 1) else pl (swpS M) l v r (e + 1) p s) = (if fitE M (sw l) e v ∧ s < cnE M (sw l) e + 1 then pl M (sw l) v r (e + 1) (e + 1) (cnE M (sw l) e + 1) else pl M (sw l) v r (e + 1) p s)
    rw [h2, swp_pl hl hv r (e + 1) (e + 1) _ (by omega), swp_pl hl hv r (e + 1) p s (by omega)]
    by_cases q : fitE M (sw l) e v ∧ s < cnE M (sw l) e + 1
    · rw [if_pos q, if_pos ⟨h1.mpr q.1, q.2⟩]
    · rw [if_neg q, if_neg (fun z => q ⟨h1.mp z.1, z.2⟩)]
theorem swp_plW (hW : WF M) {l v : Nat} (hl : l < 6) (hv : v < 16) : plW (swpS M) l v = plW M (sw l) v := by
  unfold plW
  rw [swp_len hl]
  exact swp_pl hl hv _ 0 0 0 (by have := hW.2.1 (sw l) (sw_3 hl).1; omega)
/-- the other side of es = 1, 2 -/
def eo (es : Nat) : Nat := if es = 1 then 2 else 1
theorem swp_wE (hW : WF M) {l v es : Nat} (hl : l < 6) (hv : v < 16) (hes : es = 1 ∨ es = 2) : wE (swpS M) es l v = wE M (eo es) (sw l) v := by
  obtain ⟨s1, s2, s3⟩ := sw_3 hl
  have hpl := swp_plW (M := M) (v := v) hW hl hv
  have hp := plW_le M (sw l) v
  have h10 := hW.2.1 (sw l) s1
  have c5 : swpS M (10 + 8 * v + 5) = M (10 + 8 * v + 5) := swp_lo (Or.inr (by omega))
  have hes' : (l / 3 + 1 = es) ↔ (sw l / 3 + 1 = eo es) := by
    rcases hes with rfl | rfl
    · show (l / 3 + 1 = 1) ↔ (sw l / 3 + 1 = 2)
      unfold sw
      split <;> omega
    · show (l / 3 + 1 = 2) ↔ (sw l / 3 + 1 = 1)
      unfold sw
      split <;> omega
  unfold wE
  by_cases q : l / 3 + 1 = es
  · rw [if_pos q, if_pos (hes'.mp q)]
  · rw [if_neg q, if_neg (fun z => q (hes'.mpr z)), hpl, swp_len hl, s2, c5]
    by_cases q0 : plW M (sw l) v = 0
    · rw [if_pos q0, if_pos q0]
    · rw [if_neg q0, if_neg q0, swp_ec hl (by omega) (by omega)]
theorem swp_sc (hW : WF M) {v es : Nat} (hv : v < 16) (hes : es = 1 ∨ es = 2) : scM (swpS M) es v = scM M (eo es) v := by
  have c7 : swpS M (10 + 8 * v + 7) = M (10 + 8 * v + 7) := swp_lo (Or.inr (by omega))
  have w0 := swp_wE (l := 0) hW (by omega) hv hes
  have w1 := swp_wE (l := 1) hW (by omega) hv hes
  have w2 := swp_wE (l := 2) hW (by omega) hv hes
  have w3 := swp_wE (l := 3) hW (by omega) hv hes
  have w4 := swp_wE (l := 4) hW (by omega) hv hes
  have w5 := swp_wE (l := 5) hW (by omega) hv hes
  show scF (swpS M) es v 6 0 (swpS M (10 + 8 * v + 7)) = scF M (eo es) v 6 0 (M (10 + 8 * v + 7))
  rw [c7]
  generalize M (10 + 8 * v + 7) = x
  show x * wE (swpS M) es 0 v / 1000 * wE (swpS M) es 1 v / 1000 * wE (swpS M) es 2 v / 1000 * wE (swpS M) es 3 v / 1000 * wE (swpS M) es 4 v / 1000 * wE (swpS M) es 5 v / 1000 = x * wE M (eo es) 0 v / 1000 * wE M (eo es) 1 v / 1000 * wE M (eo es) 2 v / 1000 * wE M (eo es) 3 v / 1000 * wE M (eo es) 4 v / 1000 * wE M (eo es) 5 v / 1000
  rw [w0, w1, w2, w3, w4, w5]
  have k : ∀ y : Nat, y * 1000 / 1000 = y := fun y => Nat.mul_div_cancel y (by decide)
  have e : ∀ l, l / 3 + 1 = eo es → wE M (eo es) l v = 1000 := fun l h => if_pos h
  rcases hes with rfl | rfl
  · show x * wE M 2 3 v / 1000 * wE M 2 4 v / 1000 * wE M 2 5 v / 1000 * wE M 2 0 v / 1000 * wE M 2 1 v / 1000 * wE M 2 2 v / 1000 = x * wE M 2 0 v / 1000 * wE M 2 1 v / 1000 * wE M 2 2 v / 1000 * wE M 2 3 v / 1000 * wE M 2 4 v / 1000 * wE M 2 5 v / 1000
    have e3 : wE M 2 3 v = 1000 := e 3 rfl
    have e4 : wE M 2 4 v = 1000 := e 4 rfl
    have e5 : wE M 2 5 v = 1000 := e 5 rfl
    rw [e3, e4, e5]
    simp only [k]
  · show x * wE M 1 3 v / 1000 * wE M 1 4 v / 1000 * wE M 1 5 v / 1000 * wE M 1 0 v / 1000 * wE M 1 1 v / 1000 * wE M 1 2 v / 1000 = x * wE M 1 0 v / 1000 * wE M 1 1 v / 1000 * wE M 1 2 v / 1000 * wE M 1 3 v / 1000 * wE M 1 4 v / 1000 * wE M 1 5 v / 1000
    have e0 : wE M 1 0 v = 1000 := e 0 rfl
    have e1 : wE M 1 1 v = 1000 := e 1 rfl
    have e2 : wE M 1 2 v = 1000 := e 2 rfl
    rw [e0, e1, e2]
    simp only [k]
def plainR (M : Nat → Nat) : Prop := ∀ i, i < 3 → M (1 + i) ≠ 3 ∧ M (1 + i) ≠ 4
theorem swp_tR {u q es rule : Nat} (hu : u < 16) (h3 : rule ≠ 3) (h4 : rule ≠ 4) : tR (swpS M) es u q rule = tR M (eo es) u q rule := by
  have c6 : swpS M (10 + 8 * u + 6) = M (10 + 8 * u + 6) := swp_lo (Or.inr (by omega))
  unfold tR
  rw [c6, if_neg h3, if_neg h4, if_neg h3, if_neg h4]
theorem swp_tie (hp : plainR M) {u qu w qw es : Nat} (hu : u < 16) (hw : w < 16) : ∀ (r i : Nat), i + r ≤ 3 → (tie (swpS M) es u qu w qw r i ↔ tie M (eo es) u qu w qw r i)
  | 0, _, _ => Iff.rfl
  | r + 1, i, h => by
    have ci : swpS M (1 + i) = M (1 + i) := swp_lo (Or.inl (by omega))
    obtain ⟨h3, h4⟩ := hp i (by omega)
    have ih := swp_tie hp (qu := qu) (qw := qw) (es := es) hu hw r (i + 1) (by omega)
    show ((tR (swpS M) es u qu (swpS M (1 + i)) = tR (swpS M) es w qw (swpS M (1 + i)) → tie (swpS M) es u qu w qw r (i + 1)) ∧ (¬ tR (swpS M) es u qu (swpS M (1 + i)) = tR (swpS M) es w qw (swpS M (1 + i)) → tR (swpS M) es u qu (swpS M (1 + i)) < tR (swpS M) es w qw (swpS M (1 + i)))) ↔ ((tR M (eo es) u qu (M (1 + i)) = tR M (eo es) w qw (M (1 + i)) → tie M (eo es) u qu w qw r (i + 1)) ∧ (¬ tR M (eo es) u qu (M (1 + i)) = tR M (eo es) w qw (M (1 + i)) → tR M (eo es) u qu (M (1 + i)) < tR M (eo es) w qw (M (1 + i))))
    rw [ci, swp_tR hu h3 h4, swp_tR hw h3 h4, ih]
theorem fi_cong {A A' : Nat → Nat → Prop} {S S' : Nat → Prop} {k : Nat} (hA : TO A) (hA' : TO A') (hS : ∀ v, v < k → (S v ↔ S' v)) (hAA : ∀ u w, u < k → w < k → (A u w ↔ A' u w)) : fi A S k = fi A' S' k := by
  by_cases q : fi A S k = 0
  · have h := (fi_none hA).mp q
    rw [q]
    exact ((fi_none hA').mpr (fun u hu h' => h u hu ((hS u hu).mpr h'))).symm
  · obtain ⟨v, hv⟩ : ∃ v, fi A S k = v + 1 := ⟨fi A S k - 1, by omega⟩
    obtain ⟨h1, h2, h3⟩ := (fi_iff hA).mp hv
    rw [hv]
    exact ((fi_iff hA').mpr ⟨h1, (hS v h1).mp h2, fun u hu hs hne => (hAA v u h1 hu).mp (h3 u hu ((hS u hu).mpr hs) hne)⟩).symm
theorem swp_fi (hW : WF M) (hp : plainR M) {es : Nat} (hes : es = 1 ∨ es = 2) : fiM (swpS M) es 0 = fiM M (eo es) 0 := by
  have h16 := hW.1
  have c0 : swpS M 0 = M 0 := swp_lo (Or.inl (by omega))
  unfold fiM
  rw [c0]
  refine fi_cong (aM_TO _ _) (aM_TO _ _) (fun v hv => ?_) (fun u w hu hw => ?_)
  · unfold inM
    rw [swp_sc hW (by omega) hes]
  · unfold aM ahd
    have cu : swpS M (10 + 8 * u + 7) = M (10 + 8 * u + 7) := swp_lo (Or.inr (by omega))
    have cw : swpS M (10 + 8 * w + 7) = M (10 + 8 * w + 7) := swp_lo (Or.inr (by omega))
    rw [swp_sc hW (by omega) hes, swp_sc hW (by omega) hes, cu, cw, swp_tie hp (by omega) (by omega) 3 0 (by omega)]
end SW

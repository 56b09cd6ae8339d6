/-! which place counts: class and reference -/
theorem fits_dec (x0 x1 x2 y0 y1 y2 : Nat) : fits x0 x1 x2 y0 y1 y2 ∨ ¬ fits x0 x1 x2 y0 y1 y2 := by unfold fits; exact Decidable.em _
theorem okv_k {M : Nat → Nat} (hW : WF M) {v k : Nat} (hv : v < M 0) (hk : k < 3) : okR k (vc M v k 0) (if k = 2 then 0 else vc M v k 1) (if k = 1 then vc M v k 2 else 0) := by
  obtain ⟨o1, o2, o3, o4, o5⟩ := hW.2.2.2.1 v hv
  rcases (show k = 0 ∨ k = 1 ∨ k = 2 by omega) with rfl | rfl | rfl
  · exact o1.1
  · exact o2.1
  · exact o3.1
theorem fits_k {k x0 x1 x2 y0 y1 y2 : Nat} (hk : k < 3) (h : okR k x0 x1 x2) : fits x0 x1 x2 y0 (if k = 2 then 0 else y1) (if k = 1 then y2 else 0) = fits x0 x1 x2 y0 y1 y2 := by
  obtain ⟨o0, o1, o2, z0, z1, z2, z3⟩ := h
  rcases (show k = 0 ∨ k = 1 ∨ k = 2 by omega) with rfl | rfl | rfl
  · have := z2 rfl
    subst this
    exact propext ⟨fun q => ⟨q.1, q.2.1, fun z => absurd rfl z⟩, fun q => ⟨q.1, q.2.1, fun z => absurd rfl z⟩⟩
  · rfl
  · have a := z3 rfl
    have b := z1 a
    subst a
    subst b
    exact propext ⟨fun q => ⟨q.1, fun z => absurd rfl z, fun z => absurd rfl z⟩, fun q => ⟨q.1, fun z => absurd rfl z, fun z => absurd rfl z⟩⟩
theorem KV_k {M : Nat → Nat} {keys : Nat → Int64} (h : KV M keys) {v k : Nat} (hv : v < M 0) (hk : k < 3) : keys (v * 3 + k) = lN (k5 k (vc M v k 0) (if k = 2 then 0 else vc M v k 1) (if k = 1 then vc M v k 2 else 0)) := by
  obtain ⟨e1, e2, e3⟩ := h v hv
  rcases (show k = 0 ∨ k = 1 ∨ k = 2 by omega) with rfl | rfl | rfl
  · exact e1
  · exact e2
  · exact e3
theorem k5_b {l x0 x1 x2 : Nat} (hl : l < 3) (h : okR l x0 x1 x2) : k5 l x0 x1 x2 < 1152921504606846976 := by
  obtain ⟨o0, o1, o2, z0, z1, z2, z3⟩ := h
  rcases (show l = 0 ∨ l = 1 ∨ l = 2 by omega) with rfl | rfl | rfl
  · rw [z2 rfl]; exact k5b0 o0 o1
  · exact k5b1 o0 o1 o2
  · rw [z1 (z3 rfl), z3 rfl]; exact k5b2 o0
theorem cn_le (x y z : Nat) : cn x y z ≤ 3 := by unfold cn; split <;> (try split) <;> (try split) <;> omega
theorem cn_ml {l x0 x1 x2 : Nat} (hl : l < 3) (h : okR l x0 x1 x2) : cn x0 x1 x2 ≤ ml l := by
  obtain ⟨o0, o1, o2, z0, z1, z2, z3⟩ := h
  unfold cn ml
  rcases (show l = 0 ∨ l = 1 ∨ l = 2 by omega) with rfl | rfl | rfl
  · rw [z2 rfl]; split <;> (try split) <;> (try split) <;> simp_all
  · split <;> (try split) <;> (try split) <;> simp_all
  · rw [z1 (z3 rfl), z3 rfl]; split <;> (try split) <;> (try split) <;> simp_all
theorem ml_le (l : Nat) : ml l ≤ 3 := by unfold ml; split <;> (try split) <;> omega
theorem s_matches {N l e v : Nat} {M : Nat → Nat} {keys ranges : Nat → Int64} {names : Nat → Int32} {Q : Int32 → Prop} (hW : WF M) (hK : KV M keys) (hR : RA M ranges) (hN : NA M names) (hl : l < 6) (he : e < M (4 + l)) (hv : v < M 0) (h1 : fitE M l e v → Q (nI 1)) (h0 : ¬ fitE M l e v → Q (nI 0)) : p_X3_matches N (nI (M 0)) names keys ranges (nI l) (nI e) (nI v) Q := by
  have h16 := hW.1
  have h10 := hW.2.1 l hl
  have oe := (hW.2.2.2.2 l hl e he).1
  have ov := okv_k hW hv (Nat.mod_lt l (show 3 > 0 by decide))
  have hk : l % 3 < 3 := Nat.mod_lt l (by decide)
  have cm := cn_ml hk oe
  have m3 := ml_le (l % 3)
  unfold p_X3_matches
  refine s_rowOf ?_
  simp (disch := omega) only [zl, zL, nS, lmod3]
  refine ⟨hk, by omega, s_keyOf (by omega) hk ⟨by omega, ?_⟩⟩
  rw [hR l hl e he, hN l hl e he, KV_k hK hv hk]
  simp (disch := omega) only [gmi_n, nS]
  have b1 := k5_b hk oe
  have b2 := k5_b hk ov
  have e0 := xor_sh (s := 20 * (ml (l % 3) - cn (M (ec l e)) (M (ec l e + 1)) (M (ec l e + 2)))) (show k5 (l % 3) (vc M v (l % 3) 0) (if l % 3 = 2 then 0 else vc M v (l % 3) 1) (if l % 3 = 1 then vc M v (l % 3) 2 else 0) < 2 ^ 63 by omega) (show k5 (l % 3) (M (ec l e)) (M (ec l e + 1)) (M (ec l e + 2)) < 2 ^ 63 by omega) (by omega)
  rw [k5fit hk oe ov, fits_k hk oe] at e0
  have e1 : ∀ z : Int64, (lg_cmp z (lN 0) = nI 0) = (z = lN 0) := by
    intro z
    unfold lg_cmp
    by_cases q : z > lN 0
    · rw [if_pos q]
      refine propext ⟨fun h => absurd h (by decide), fun h => ?_⟩
      rw [h] at q
      exact absurd q (by decide)
    · rw [if_neg q]
      by_cases r : z = lN 0
      · rw [if_pos r]; exact propext ⟨fun _ => r, fun _ => rfl⟩
      · rw [if_neg r]; exact propext ⟨fun h => absurd h (by decide), fun h => absurd h r⟩
  rw [e1, e0]
  exact ⟨fun h => h0 h, fun h => h1 h⟩


/-! tools for the law's own predicates -/
theorem nI_u {a b : Nat} (h : nI a = nI b) (ha : a < 2147483648) (hb : b < 2147483648) : a = b := by
  rw [show (nI a = nI b) = (a = b) from nS.2.2.2.2.2.2.2.2.2.1 a b ha hb] at h
  exact h
theorem isE_u {M : Nat → Nat} {x y z : Int32} {l e l' e' : Nat} (hW : WF M) (h : isE M x y z l e) (h' : isE M x y z l' e') : l' = l ∧ e' = e := by
  obtain ⟨a1, a2, s, k, a3, a4, a5, a6, a7, a8⟩ := h
  obtain ⟨b1, b2, s', k', b3, b4, b5, b6, b7, b8⟩ := h'
  obtain ⟨e1, e2⟩ := isL_e b3 b4 a3 a4 (b6.symm.trans a6) (b7.symm.trans a7)
  have h1 := hW.2.1 l a1
  have h2 := hW.2.1 l' b1
  exact ⟨by omega, nI_u (b8.symm.trans a8) (by omega) (by omega)⟩
theorem brt {c A B : Prop} (h : c) (a : A) : (c → A) ∧ (¬ c → B) := ⟨fun _ => a, fun z => absurd h z⟩
theorem brf {c A B : Prop} (h : ¬ c) (b : B) : (c → A) ∧ (¬ c → B) := ⟨fun z => absurd z h, fun _ => b⟩
theorem bnt {c A B : Prop} (h : c) (b : B) : (¬ c → A) ∧ (c → B) := ⟨fun z => absurd h z, fun _ => b⟩
theorem bnf {c A B : Prop} (h : ¬ c) (a : A) : (¬ c → A) ∧ (c → B) := ⟨fun _ => a, fun z => absurd z h⟩
theorem ix3 {k : Nat} : k / 3 * 3 + (k - k / 3 * 3) = k := by omega
theorem ix3' {k : Nat} : 3 * (k / 3) + (k - k / 3 * 3) = k := by omega
theorem isE_k {M : Nat → Nat} {k e : Nat} (hk : k < 6) (he : e < M (4 + k)) : isE M (nI (k / 3)) (nI (k - k / 3 * 3)) (nI e) k e := ⟨hk, he, k / 3, k - k / 3 * 3, by omega, by omega, by omega, rfl, rfl, rfl⟩
section TO
variable {z : DS}
theorem qw_k (hW : WF (zM z)) {k v : Nat} (hk : k < 6) (hv : v < zM z 0) : q_weight z (nI (k / 3)) (nI (k - k / 3 * 3)) (nI v) = nI (wE (zM z) 0 k v) := by
  rw [q_weight_ok hW (by omega) (by omega) hv, ix3]
theorem qc_k (hW : WF (zM z)) {k v : Nat} (hk : k < 6) (hv : v < zM z 0) : q_counting z (nI (k / 3)) (nI (k - k / 3 * 3)) (nI v) = nP (plW (zM z) k v) := by
  rw [q_counting_ok hW (by omega) (by omega) hv, ix3]
theorem qe_k (hW : WF (zM z)) {k e w : Nat} (hk : k < 6) (he : e < zM z (4 + k)) (hw : w ≤ 3) : q_entry z (nI (k / 3)) (nI (k - k / 3 * 3)) (nI e) (nI w) = nI (eV (zM z) k e w) := q_entry_ok hW (isE_k hk he) hw
theorem qe_4 (hW : WF (zM z)) {k e : Nat} (hk : k < 6) (he : e < zM z (4 + k)) : q_entry z (nI (k / 3)) (nI (k - k / 3 * 3)) (nI e) (nI 4) = (-90100) := q_entry_wh hW (isE_k hk he) (fun w hw q => by have := nI_u q (by omega) (by omega); omega)
theorem qe_kno {k e : Nat} {x : Int32} (hk : k < 6) (h31 : e < 2147483648) (he : zM z (4 + k) ≤ e) : q_entry z (nI (k / 3)) (nI (k - k / 3 * 3)) (nI e) x = (-90300) := q_entry_no (fun l e' ⟨hl, h2, s, k', hs, hk', el, e1, e2, e3⟩ => by
  have a1 := nI_u e1 (by omega) (by omega)
  have a2 := nI_u e2 (by omega) (by omega)
  have hlk : l = k := by omega
  subst hlk
  by_cases q : e' < 2147483648
  · have a3 := nI_u e3 h31 q
    omega
  · omega)
end TO

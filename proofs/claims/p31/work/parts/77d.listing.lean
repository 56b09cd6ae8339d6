/-! the law's check of the listing -/
def ct (c : Nat) : List Nat → Nat
  | [] => 0
  | x :: l => (if x = c then 1 else 0) + ct c l
theorem ct_app (c : Nat) : ∀ (a b : List Nat), ct c (a ++ b) = ct c a + ct c b
  | [], b => (Nat.zero_add _).symm
  | x :: a, b => by
    show (if x = c then 1 else 0) + ct c (a ++ b) = (if x = c then 1 else 0) + ct c a + ct c b
    rw [ct_app c a b, Nat.add_assoc]
theorem ct_0 {c : Nat} : ∀ (a : List Nat), (∀ x ∈ a, x ≠ c) → ct c a = 0
  | [], _ => rfl
  | x :: a, h => by
    show (if x = c then 1 else 0) + ct c a = 0
    rw [if_neg (h x List.mem_cons_self), ct_0 a (fun y hy => h y (List.mem_cons_of_mem _ hy))]
theorem gB_mem : ∀ (L : List Nat) (j : Nat), j < L.length → gB L j ∈ L
  | [], _, h => absurd h (Nat.not_lt_zero _)
  | x :: l, 0, _ => List.mem_cons_self
  | x :: l, j + 1, h => List.mem_cons_of_mem _ (gB_mem l j (by simpa using h))
theorem nC_c {x c : Nat} {l : List Nat} : ∀ j, nC (fun i => gB (x :: l) i = c) (j + 1) = (if x = c then 1 else 0) + nC (fun i => gB l i = c) j
  | 0 => by
    by_cases q : x = c
    · rw [nC_t (P := fun i => gB (x :: l) i = c) (n := 0) q, if_pos q]
      rfl
    · rw [nC_f (P := fun i => gB (x :: l) i = c) (n := 0) q, if_neg q]
      rfl
  | j + 1 => by
    have ih := nC_c (x := x) (c := c) (l := l) j
    by_cases q : gB l j = c
    · rw [nC_t (P := fun i => gB (x :: l) i = c) (n := j + 1) q, ih, nC_t (P := fun i => gB l i = c) q, Nat.add_assoc]
    · rw [nC_f (P := fun i => gB (x :: l) i = c) (n := j + 1) q, ih, nC_f (P := fun i => gB l i = c) q]
theorem nC_ct {c : Nat} : ∀ (L : List Nat), nC (fun i => gB L i = c) L.length = ct c L
  | [] => rfl
  | x :: l => by
    rw [List.length_cons, nC_c, nC_ct l]
    rfl
def okB (c : Nat) : Prop := c = 44 ∨ c = 47 ∨ c = 32 ∨ c = 45 ∨ (48 ≤ c ∧ c ≤ 57) ∨ (97 ≤ c ∧ c ≤ 122)
def CF (L : List Nat) : Prop := ∀ j, j < L.length → gB L j = 44 → j + 1 < L.length ∧ gB L (j + 1) = 32
theorem gB_r : ∀ (A B : List Nat) (j : Nat), gB (A ++ B) (A.length + j) = gB B j
  | [], B, j => by simp
  | x :: A, B, j => by
    rw [List.length_cons, show A.length + 1 + j = (A.length + j) + 1 by omega]
    exact gB_r A B j
theorem CF_app {A B : List Nat} (ha : CF A) (hb : CF B) : CF (A ++ B) := by
  intro j hj h
  rw [List.length_append] at hj ⊢
  by_cases q : j < A.length
  · rw [gB_l A B j q] at h
    obtain ⟨h1, h2⟩ := ha j q h
    exact ⟨by omega, by rw [gB_l A B (j + 1) h1]; exact h2⟩
  · obtain ⟨i, rfl⟩ : ∃ i, j = A.length + i := ⟨j - A.length, by omega⟩
    rw [gB_r] at h
    obtain ⟨h1, h2⟩ := hb i (by omega) h
    exact ⟨by omega, by rw [Nat.add_assoc, gB_r]; exact h2⟩
theorem CF_no {A : List Nat} (h : ∀ x ∈ A, x ≠ 44) : CF A := fun j hj e => absurd e (h _ (gB_mem A j hj))
theorem CF_c : CF [44, 32] := fun j hj h => by
  rcases (show j = 0 ∨ j = 1 by simp at hj; omega) with rfl | rfl
  · exact ⟨by decide, rfl⟩
  · exact absurd h (by decide)
def ltr (x : Nat) : Prop := 97 ≤ x ∧ x ≤ 122
theorem bnz_l {x : Nat} (h : x = 0 ∨ ltr x) : ∀ y ∈ bnz x, ltr y := by
  unfold bnz
  intro y hy
  by_cases q : x = 0
  · rw [if_pos q] at hy
    exact absurd hy List.not_mem_nil
  · rw [if_neg q] at hy
    rw [List.mem_singleton.mp hy]
    exact h.resolve_left q
theorem nmB_l {x : Nat} (h : okN x) : ∀ y ∈ nmB x, ltr y := by
  obtain ⟨h1, h2, h3, h4, -⟩ := h
  unfold nmB
  intro y hy
  rcases List.mem_append.mp hy with q | q
  · exact bnz_l h1 y q
  · rcases List.mem_append.mp q with q | q
    · exact bnz_l h2 y q
    · rcases List.mem_append.mp q with q | q
      · exact bnz_l h3 y q
      · exact bnz_l h4 y q
def dgt (x : Nat) : Prop := 48 ≤ x ∧ x ≤ 57
theorem ng_d {n : Nat} : ∀ (ps : List Nat) (g : Nat), ∀ y ∈ ng n g ps, dgt y
  | [], _, y, h => absurd h List.not_mem_nil
  | p :: r, g, y, h => by
    have h : y ∈ (if g ≠ 0 ∨ n / p % 10 ≠ 0 ∨ p = 1 then (48 + n / p % 10) :: ng n 1 r else ng n 0 r) := h
    have hm := Nat.mod_lt (n / p) (show 0 < 10 by decide)
    by_cases q : g ≠ 0 ∨ n / p % 10 ≠ 0 ∨ p = 1
    · rw [if_pos q] at h
      rcases List.mem_cons.mp h with e | e
      · rw [e]
        exact ⟨by omega, by omega⟩
      · exact ng_d r 1 y e
    · rw [if_neg q] at h
      exact ng_d r 0 y h
theorem sq_45 {y : Nat} : ∀ x ∈ sq y 45, x = 45 := by
  intro x hx
  unfold sq at hx
  split at hx
  · exact absurd hx List.not_mem_nil
  · exact List.mem_singleton.mp hx
/-- the bytes of one variant: letters, digits, "-", one "/", three spaces -/
theorem vB_b {M : Nat → Nat} (hW : WF M) {v : Nat} (hv : v < M 0) : (∀ x ∈ vB M v, okB x ∧ x ≠ 44) ∧ ct 47 (vB M v) = 1 ∧ ct 32 (vB M v) = 3 ∧ ct 44 (vB M v) = 0 := by
  obtain ⟨⟨⟨a0, a1, -⟩, -⟩, ⟨⟨b0, b1, b2, -⟩, -⟩, ⟨⟨c0, -⟩, -⟩, -⟩ := hW.2.2.2.1 v hv
  have l0 := nmB_l a0
  have l1 := nmB_l a1
  have m0 := nmB_l b0
  have m1 := nmB_l b1
  have m2 := nmB_l b2
  have n0 := nmB_l c0
  have d0 : ∀ y ∈ numB (M (10 + 8 * v + 6)), dgt y := ng_d p6 0
  have s1 := sq_45 (y := M (10 + 8 * v + 3))
  have s2 := sq_45 (y := M (10 + 8 * v + 4))
  have z : ∀ (c : Nat) (a : List Nat), (c < 97) → (∀ y ∈ a, ltr y) → ct c a = 0 := fun c a hc h => ct_0 a (fun x hx e => by have := (h x hx).1; omega)
  have zd : ∀ (c : Nat) (a : List Nat), (c < 48) → (∀ y ∈ a, dgt y) → ct c a = 0 := fun c a hc h => ct_0 a (fun x hx e => by have := (h x hx).1; omega)
  have zs : ∀ (c : Nat) (a : List Nat), (c ≠ 45) → (∀ y ∈ a, y = 45) → ct c a = 0 := fun c a hc h => ct_0 a (fun x hx e => hc (e.symm.trans (h x hx)))
  refine ⟨fun x hx => ?_, ?_, ?_, ?_⟩
  · unfold vB at hx
    simp only [List.mem_append, List.mem_cons, List.not_mem_nil, or_false] at hx
    unfold okB
    rcases hx with h | h | h | h | h | h | h | h | h | h | h | h | h
    · have := l0 x h; unfold ltr at this; omega
    · omega
    · have := l1 x h; unfold ltr at this; omega
    · omega
    · have := m0 x h; unfold ltr at this; omega
    · have := s1 x h; omega
    · have := m1 x h; unfold ltr at this; omega
    · have := s2 x h; omega
    · have := m2 x h; unfold ltr at this; omega
    · omega
    · have := n0 x h; unfold ltr at this; omega
    · omega
    · have := d0 x h; unfold dgt at this; omega
  · unfold vB
    simp only [ct_app]
    rw [z 47 _ (by decide) l0, z 47 _ (by decide) l1, z 47 _ (by decide) m0, z 47 _ (by decide) m1, z 47 _ (by decide) m2, z 47 _ (by decide) n0, zd 47 _ (by decide) d0, zs 47 _ (by decide) s1, zs 47 _ (by decide) s2]
    decide
  · unfold vB
    simp only [ct_app]
    rw [z 32 _ (by decide) l0, z 32 _ (by decide) l1, z 32 _ (by decide) m0, z 32 _ (by decide) m1, z 32 _ (by decide) m2, z 32 _ (by decide) n0, zd 32 _ (by decide) d0, zs 32 _ (by decide) s1, zs 32 _ (by decide) s2]
    decide
  · unfold vB
    simp only [ct_app]
    rw [z 44 _ (by decide) l0, z 44 _ (by decide) l1, z 44 _ (by decide) m0, z 44 _ (by decide) m1, z 44 _ (by decide) m2, z 44 _ (by decide) n0, zd 44 _ (by decide) d0, zs 44 _ (by decide) s1, zs 44 _ (by decide) s2]
    decide
theorem lB_b {M : Nat → Nat} (hW : WF M) : ∀ k, k ≤ M 0 → (∀ x ∈ lB M k, okB x) ∧ CF (lB M k) ∧ ct 47 (lB M k) = k ∧ ct 44 (lB M k) = k - 1 ∧ ct 32 (lB M k) = 4 * k - 1
  | 0, _ => ⟨fun x h => absurd h List.not_mem_nil, fun j h => absurd h (Nat.not_lt_zero _), rfl, rfl, rfl⟩
  | k + 1, h => by
    obtain ⟨h1, h2, h3, h4, h5⟩ := lB_b hW k (by omega)
    obtain ⟨v1, v2, v3, v4⟩ := vB_b hW (v := roM M k) (roM_lt (by omega))
    have hv : CF (vB M (roM M k)) := CF_no (fun x hx => (v1 x hx).2)
    have e : lB M (k + 1) = lB M k ++ ((if k = 0 then [] else [44, 32]) ++ vB M (roM M k)) := rfl
    by_cases q : k = 0
    · rw [if_pos q, List.nil_append] at e
      rw [e]
      refine ⟨fun x hx => (List.mem_append.mp hx).elim (h1 x) (fun z => (v1 x z).1), CF_app h2 hv, ?_, ?_, ?_⟩
      · rw [ct_app, h3, v2]
      · rw [ct_app, h4, v4]; omega
      · rw [ct_app, h5, v3]; omega
    · rw [if_neg q] at e
      rw [e]
      refine ⟨fun x hx => ?_, CF_app h2 (CF_app CF_c hv), ?_, ?_, ?_⟩
      · rcases List.mem_append.mp hx with z | z
        · exact h1 x z
        · rcases List.mem_append.mp z with z | z
          · unfold okB
            simp only [List.mem_cons, List.not_mem_nil, or_false] at z
            omega
          · exact (v1 x z).1
      · rw [ct_app, ct_app, h3, v2]; show k + (0 + 1) = k + 1; omega
      · rw [ct_app, ct_app, h4, v4]; show k - 1 + (1 + 0) = k + 1 - 1; omega
      · rw [ct_app, ct_app, h5, v3]; show 4 * k - 1 + (1 + 3) = 4 * (k + 1) - 1; omega
section LI2
variable {z : DS}
theorem li_17 (hW : WF (zM z)) {K1 : Int32 → Int32 → Int32 → Int32 → Int32 → Int32 → Prop} {K2 : Int32 → Int32 → Int32 → Int32 → Prop} (hok : ∀ x ∈ lB (zM z) (zM z 0), okB x) (hcf : CF (lB (zM z) (zM z 0))) (hK : K2 (nI (ct 44 (lB (zM z) (zM z 0)))) (nI (ct 47 (lB (zM z) (zM z 0)))) (nI (ct 32 (lB (zM z) (zM z 0)))) (nI (lB (zM z) (zM z 0)).length)) : ∀ (r j f : Nat), j + r = (lB (zM z) (zM z 0)).length → r < f → p_L_listing_17 (nI (lB (zM z) (zM z 0)).length) z K1 K2 f (nI (nC (fun i => gB (lB (zM z) (zM z 0)) i = 44) j)) (nI (nC (fun i => gB (lB (zM z) (zM z 0)) i = 47) j)) (nI (nC (fun i => gB (lB (zM z) (zM z 0)) i = 32) j)) (nI j) := by
  have hlen := lB_len (zM z) (zM z 0)
  have h16 := hW.1
  generalize hL : lB (zM z) (zM z 0) = L at hok hcf hK hlen ⊢
  intro r
  induction r with
  | zero =>
    intro j f hj hf
    obtain ⟨f, rfl⟩ : ∃ g, f = g + 1 := ⟨f - 1, by omega⟩
    obtain rfl : j = L.length := by omega
    rw [nC_ct, nC_ct, nC_ct]
    exact brt (by rw [Int32.le_iff_toInt_le]; omega) hK
  | succ r ih =>
    intro j f hj hf
    obtain ⟨f, rfl⟩ : ∃ g, f = g + 1 := ⟨f - 1, by omega⟩
    have ih' := ih (j + 1) f (by omega) (by omega)
    obtain ⟨c, hc⟩ : ∃ c, gB L j = c := ⟨_, rfl⟩
    have hcok : okB c := by rw [← hc]; exact hok _ (gB_mem L j (by omega))
    have eb : q_listingByte z (nI j) = nI c := by
      rw [q_listingByte_ok (by omega), hL, if_pos (by omega), hc]
    have hcb : c ≤ 122 := by unfold okB at hcok; omega
    have h6 : ¬ nI L.length ≤ nI j := by
      simp (disch := omega) only [nS]
      omega
    refine brf h6 ?_
    have key : ∀ (a b d : Nat), (a = if c = 44 then 1 else 0) → (b = if c = 47 then 1 else 0) → (d = if c = 32 then 1 else 0) → p_L_listing_17 (nI L.length) z K1 K2 f (nI (nC (fun i => gB L i = 44) j + a)) (nI (nC (fun i => gB L i = 47) j + b)) (nI (nC (fun i => gB L i = 32) j + d)) (nI (j + 1)) := by
      intro a b d ha hb hd
      have t : ∀ (k e : Nat), (e = if c = k then 1 else 0) → nC (fun i => gB L i = k) (j + 1) = nC (fun i => gB L i = k) j + e := by
        intro k e he
        by_cases q : c = k
        · rw [nC_t (P := fun i => gB L i = k) (n := j) (hc.trans q), he, if_pos q]
        · rw [nC_f (P := fun i => gB L i = k) (n := j) (fun h => q (hc.symm.trans h)), he, if_neg q]
          rfl
      rw [← t 44 a ha, ← t 47 b hb, ← t 32 d hd]
      exact ih'
    generalize hB : p_L_listing_17 (nI L.length) z K1 K2 f = B at key
    have j134 : ∀ (a b d : Nat), (a = if c = 44 then 1 else 0) → (b = if c = 47 then 1 else 0) → (d = if c = 32 then 1 else 0) → p_L_listing_j134 K1 (nI (nC (fun i => gB L i = 44) j)) (nI a) (nI (nC (fun i => gB L i = 47) j)) (nI b) (nI (nC (fun i => gB L i = 32) j)) (nI d) (nI j) z B := by
      intro a b d ha hb hd
      have k := key a b d ha hb hd
      unfold p_L_listing_j134 p_L_listing_j139
      simp (disch := omega) only [zl, nS, eb]
      refine brf (by decide) ?_
      by_cases q : c = 44
      · obtain ⟨n1, n2⟩ := hcf j (by omega) (hc.trans q)
        have eb2 : q_listingByte z (nI (j + 1)) = nI 32 := by
          rw [q_listingByte_ok (by omega), hL, if_pos n1, n2]
        rw [eb2]
        exact bnt q (brt rfl k)
      · exact bnf q k
    have j75 : ∀ (a b d : Nat), (a = if c = 44 then 1 else 0) → (b = if c = 47 then 1 else 0) → (d = if c = 32 then 1 else 0) → p_L_listing_j75 z (nI j) K1 (nI (nC (fun i => gB L i = 44) j)) (nI a) (nI (nC (fun i => gB L i = 47) j)) (nI b) (nI (nC (fun i => gB L i = 32) j)) B (nI d) := by
      intro a b d ha hb hd
      have k := j134 a b d ha hb hd
      unfold p_L_listing_j75 p_L_listing_j120
      unfold okB at hcok
      simp (disch := omega) only [zl, nS, eb]
      refine ⟨fun _ => k, fun h1 => ⟨fun _ => k, fun h2 => ⟨fun _ => k, fun h3 => ⟨fun _ => k, fun h4 => ⟨fun h5 => ?_, fun h5 => ⟨fun _ => k, fun h6 => ?_⟩⟩⟩⟩⟩⟩
      · omega
      · exact brf (by omega) (brf (by omega) k)
    have j59 : ∀ (a b : Nat), (a = if c = 44 then 1 else 0) → (b = if c = 47 then 1 else 0) → p_L_listing_j59 z (nI j) K1 (nI (nC (fun i => gB L i = 44) j)) (nI a) (nI (nC (fun i => gB L i = 47) j)) (nI (nC (fun i => gB L i = 32) j)) B (nI b) := by
      intro a b ha hb
      unfold p_L_listing_j59
      simp (disch := omega) only [zl, nS, eb]
      by_cases q : c = 32
      · exact bnt q (j75 a b 1 ha hb (by rw [if_pos q]))
      · exact bnf q (j75 a b 0 ha hb (by rw [if_neg q]))
    have j44 : ∀ (a : Nat), (a = if c = 44 then 1 else 0) → p_L_listing_j44 z (nI j) K1 (nI (nC (fun i => gB L i = 44) j)) (nI (nC (fun i => gB L i = 47) j)) (nI (nC (fun i => gB L i = 32) j)) B (nI a) := by
      intro a ha
      unfold p_L_listing_j44
      simp (disch := omega) only [zl, nS, eb]
      by_cases q : c = 47
      · exact bnt q (j59 a 1 ha (by rw [if_pos q]))
      · exact bnf q (j59 a 0 ha (by rw [if_neg q]))
    simp (disch := omega) only [zl, eb]
    simp (disch := omega) only [nS]
    by_cases q : c = 44
    · exact bnt q (j44 1 (by rw [if_pos q]))
    · exact bnf q (j44 0 (by rw [if_neg q]))
theorem p_listing_ok (hI : INV z) {Q : Int32 → Prop} (hQ : Q (nI 1)) : p_L_listing z Q := by
  have hW := hI.1
  have h16 := hW.1
  have hlen := lB_len (zM z) (zM z 0)
  obtain ⟨h1, h2, h3, h4, h5⟩ := lB_b hW (zM z 0) (Nat.le_refl _)
  have w0 : q_whole z (nI 0) = nI (zM z 0) := q_whole_ok (by omega)
  have w10 : q_whole z (nI 10) = nI (lB (zM z) (zM z 0)).length := q_whole_ok (by omega)
  have le : q_listingByte z (nI (lB (zM z) (zM z 0)).length) = nM := by
    rw [q_listingByte_ok (by omega), if_neg (by omega)]
  unfold p_L_listing
  simp only [zl, w0, w10]
  refine li_17 hW h1 h2 ?_ (lB (zM z) (zM z 0)).length 0 609 (by omega) (by omega)
  rw [h3, h4, h5, le]
  refine bnt nM_e.symm (bnt rfl ?_)
  have j230 : p_L_listing_j230 (nI (4 * zM z 0 - 1)) Q (nI (4 * zM z 0 - 1)) := by
    unfold p_L_listing_j230
    exact bnt rfl hQ
  have j210 : p_L_listing_j210 (nI (zM z 0 - 1)) Q z (nI (4 * zM z 0 - 1)) (nI (zM z 0 - 1)) := by
    unfold p_L_listing_j210
    refine bnt rfl ?_
    simp only [zl, w0]
    by_cases q : zM z 0 = 0
    · refine bnt (by rw [q]) ?_
      rw [q] at j230
      rw [q]
      exact j230
    · refine bnf (fun e => q (nI_u e (by omega) (by omega))) ?_
      rw [nS.2.1, nS.2.2.1 _ _ (by omega)]
      exact j230
  by_cases q : zM z 0 = 0
  · refine bnt (by rw [q]) ?_
    rw [q] at j210
    rw [q]
    exact j210
  · refine bnf (fun e => q (nI_u e (by omega) (by omega))) ?_
    rw [nS.2.2.1 _ _ (by omega)]
    exact j210
end LI2

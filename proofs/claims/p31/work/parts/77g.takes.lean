/-! the law types a list and takes it -/
def RNG (l : Nat) (R : List Nat) : Prop := if l = 0 then ∃ p s, R = p ++ (47 :: s) ∧ ((p = [42] ∧ s = [42]) ∨ (wd p ∧ (s = [42] ∨ wd s))) else R = [42] ∨ wd R
def WGT (W : List Nat) : Prop := W = [] ∨ ∃ d e, dgt d ∧ dgt e ∧ W = [32, 59, 48, d, e, 48]
def ENT (l : Nat) (E : List Nat) : Prop := ∃ R W, E = R ++ W ∧ RNG l R ∧ WGT W
def ENS (l : Nat) : Nat → List Nat → Prop
  | 0, L => L = []
  | 1, L => ENT l L
  | n + 2, L => ∃ E L', ENT l E ∧ L = E ++ (44 :: 32 :: L') ∧ ENS l (n + 1) L'
theorem ENS_snoc {l : Nat} {E : List Nat} (hE : ENT l E) : ∀ (n : Nat) (L : List Nat), ENS l (n + 1) L → ENS l (n + 2) (L ++ (44 :: 32 :: E))
  | 0, L, h => ⟨L, E, h, rfl, hE⟩
  | n + 1, L, h => by
    obtain ⟨E1, L', h1, rfl, h2⟩ := h
    exact ⟨E1, L' ++ (44 :: 32 :: E), h1, by simp, ENS_snoc hE n L' h2⟩
theorem RNG_h {l : Nat} {R T : List Nat} {c : Nat} (h : RNG l R) (hc : c < 42) : ne c (R ++ T) := by
  unfold RNG at h
  by_cases q : l = 0
  · rw [if_pos q] at h
    obtain ⟨p, s, rfl, ⟨rfl, -⟩ | ⟨hp, -⟩⟩ := h
    · show (42 : Nat) ≠ c
      omega
    · rw [List.append_assoc]
      exact wd_h hp (by omega)
  · rw [if_neg q] at h
    rcases h with rfl | h
    · show (42 : Nat) ≠ c
      omega
    · exact wd_h h (by omega)
theorem ENT_h {l : Nat} {E T : List Nat} {c : Nat} (h : ENT l E) (hc : c < 42) : ne c (E ++ T) := by
  obtain ⟨R, W, rfl, h1, -⟩ := h
  rw [List.append_assoc]
  exact RNG_h h1 hc
theorem ENS_h {l n : Nat} {L : List Nat} {c : Nat} (h : ENS l (n + 1) L) (hc : c < 42) : ne c L := by
  cases n with
  | zero =>
    have := ENT_h (T := []) (c := c) h hc
    rw [List.append_nil] at this
    exact this
  | succ n =>
    obtain ⟨E, L', h1, rfl, -⟩ := h
    exact ENT_h h1 hc
section TK
variable {b : Nat → Nat} {tn a : Nat}
/-- a range, with a space, a comma or nothing behind it -/
theorem rg_read {l : Nat} {R T : List Nat} (hl : l < 3) (hR : RNG l R) (h : At b tn a (R ++ T)) (h1 : nlt T) (h2 : ne 45 T) : (rg b tn l a).1 = 1 ∧ (rg b tn l a).2.1 = a + R.length ∧ At b tn (a + R.length) T := by
  have n47 : ∀ R, nlt (47 :: R) := fun R => by show ¬ ltr 47; unfold ltr; omega
  unfold RNG at hR
  by_cases q : l = 0
  · rw [if_pos q] at hR
    obtain ⟨p, s, rfl, hps⟩ := hR
    unfold rg rgT
    rw [if_pos q]
    rcases hps with ⟨rfl, rfl⟩ | ⟨hp, hs⟩
    · obtain ⟨a1, b1, g1⟩ := At_c h
      obtain ⟨a2, b2, g2⟩ := At_c g1
      obtain ⟨a3, b3, g3⟩ := At_c g2
      rw [if_pos ⟨a1, b1⟩, if_pos ⟨a2, b2⟩, if_pos ⟨a3, b3⟩]
      exact ⟨rfl, rfl, g3⟩
    · rw [List.append_assoc] at h
      obtain ⟨t1, m1, g1, -⟩ := At_nm hp h (n47 _)
      obtain ⟨a2, b2, g2⟩ := At_c g1
      rw [if_neg (At_ne h (wd_h hp (by decide))), if_pos t1, m1, if_pos ⟨a2, b2⟩]
      rcases hs with rfl | hs
      · obtain ⟨a3, b3, g3⟩ := At_c g2
        rw [if_pos ⟨a3, b3⟩]
        rw [List.length_append, show a + (p.length + [47, 42].length) = a + p.length + 1 + 1 from rfl]
        exact ⟨rfl, rfl, g3⟩
      · obtain ⟨t3, m3, g3, -⟩ := At_nm hs g2 h1
        rw [if_neg (At_ne g2 (wd_h hs (by decide))), if_pos t3, m3]
        rw [List.length_append, List.length_cons, show a + (p.length + (s.length + 1)) = a + p.length + 1 + s.length by omega]
        exact ⟨rfl, rfl, g3⟩
  · rw [if_neg q] at hR
    unfold rg
    rw [if_neg q]
    rcases hR with rfl | hR
    · obtain ⟨a1, b1, g1⟩ := At_c h
      rw [if_pos ⟨a1, b1⟩]
      exact ⟨rfl, rfl, g1⟩
    · obtain ⟨t1, m1, g1, -⟩ := At_nm hR h h1
      rw [if_neg (At_ne h (wd_h hR (by decide)))]
      by_cases q1 : l = 1
      · rw [if_pos q1]
        unfold rgL
        rw [if_pos t1, m1, if_neg (At_ne g1 h2)]
        exact ⟨rfl, rfl, g1⟩
      · rw [if_neg q1]
        unfold vrC
        rw [if_pos t1, m1]
        exact ⟨rfl, rfl, g1⟩
/-- a weight, or none, with a comma or nothing behind it -/
theorem wt_read {W T : List Nat} (hW : WGT W) (h : At b tn a (W ++ T)) (h1 : T = [] ∨ ∃ T', T = 44 :: T') : (wt b tn a).1 = 1 ∧ (wt b tn a).2.1 = a + W.length ∧ At b tn (a + W.length) T := by
  have hT32 : ne 32 T := by
    rcases h1 with rfl | ⟨T', rfl⟩
    · trivial
    · show (44 : Nat) ≠ 32
      decide
  have hT59 : ne 59 T := by
    rcases h1 with rfl | ⟨T', rfl⟩
    · trivial
    · show (44 : Nat) ≠ 59
      decide
  rcases hW with rfl | ⟨d, e, hd, he, rfl⟩
  · have g : At b tn a T := h
    unfold wt
    rw [At_sk g hT32, if_neg (At_ne g hT59)]
    exact ⟨rfl, rfl, g⟩
  · obtain ⟨a1, b1, g1⟩ := At_c h
    obtain ⟨a2, b2, g2⟩ := At_c g1
    obtain ⟨a3, b3, g3⟩ := At_c g2
    obtain ⟨a4, b4, g4⟩ := At_c g3
    obtain ⟨a5, b5, g5⟩ := At_c g4
    obtain ⟨a6, b6, g6⟩ := At_c g5
    unfold dgt at hd he
    have s1 : sk b tn a = a + 1 := At_sk1 h (show (59 : Nat) ≠ 32 by decide)
    have s2 : sk b tn (a + 1 + 1) = a + 1 + 1 := At_sk g2 (show (48 : Nat) ≠ 32 by decide)
    have s6 : sk b tn (a + 1 + 1 + 1 + 1 + 1 + 1) = a + 1 + 1 + 1 + 1 + 1 + 1 := At_sk g6 hT32
    have d0 : dg b tn 4 0 (a + 1 + 1) = dg b tn 3 (10 * 0 + (b (a + 1 + 1) - 48)) (a + 1 + 1 + 1) := if_pos ⟨a3, by omega⟩
    have d1 : dg b tn 3 (10 * 0 + (b (a + 1 + 1) - 48)) (a + 1 + 1 + 1) = dg b tn 2 (10 * (10 * 0 + (b (a + 1 + 1) - 48)) + (b (a + 1 + 1 + 1) - 48)) (a + 1 + 1 + 1 + 1) := if_pos ⟨a4, by omega⟩
    have d2 : dg b tn 2 (10 * (10 * 0 + (b (a + 1 + 1) - 48)) + (b (a + 1 + 1 + 1) - 48)) (a + 1 + 1 + 1 + 1) = dg b tn 1 (10 * (10 * (10 * 0 + (b (a + 1 + 1) - 48)) + (b (a + 1 + 1 + 1) - 48)) + (b (a + 1 + 1 + 1 + 1) - 48)) (a + 1 + 1 + 1 + 1 + 1) := if_pos ⟨a5, by omega⟩
    have d3 : dg b tn 1 (10 * (10 * (10 * 0 + (b (a + 1 + 1) - 48)) + (b (a + 1 + 1 + 1) - 48)) + (b (a + 1 + 1 + 1 + 1) - 48)) (a + 1 + 1 + 1 + 1 + 1) = (10 * (10 * (10 * (10 * 0 + (b (a + 1 + 1) - 48)) + (b (a + 1 + 1 + 1) - 48)) + (b (a + 1 + 1 + 1 + 1) - 48)) + (b (a + 1 + 1 + 1 + 1 + 1) - 48), a + 1 + 1 + 1 + 1 + 1 + 1) := if_pos ⟨a6, by omega⟩
    rw [b3, b4, b5, b6] at d3
    have dd : dg b tn 4 0 (a + 1 + 1) = (10 * (10 * (10 * (10 * 0 + (48 - 48)) + (d - 48)) + (e - 48)) + (48 - 48), a + 1 + 1 + 1 + 1 + 1 + 1) := by
      rw [d0, d1, d2, b3, b4, b5, d3]
    have nd : ¬ tD b tn (a + 1 + 1 + 1 + 1 + 1 + 1) := by
      rcases h1 with rfl | ⟨T', rfl⟩
      · have := At_e g6
        intro z
        have := z.1
        omega
      · obtain ⟨a7, b7, -⟩ := At_c g6
        intro z
        have := z.2
        omega
    have hv : 10 * (10 * (10 * (10 * 0 + (48 - 48)) + (d - 48)) + (e - 48)) + (48 - 48) ≤ 1000 := by omega
    unfold wt
    rw [s1, if_pos ⟨a2, b2⟩, s2, dd]
    dsimp only
    rw [if_pos (by omega), if_neg nd, if_pos hv, s6]
    exact ⟨rfl, rfl, g6⟩
theorem ls_read {l : Nat} (hl : l < 3) : ∀ (n r e a : Nat) (L : List Nat) (V : Nat → Nat), n < r → ENS l (n + 1) L → At b tn a L → (ls b tn l r e a V).1 = 1 ∧ (ls b tn l r e a V).2.2.1 = e + (n + 1) := by
  intro n
  induction n with
  | zero =>
    intro r e a L V hr hE h
    obtain ⟨r, rfl⟩ : ∃ q, r = q + 1 := ⟨r - 1, by omega⟩
    obtain ⟨R, W, rfl, hR, hW⟩ := hE
    have hT1 : nlt W := by
      rcases hW with rfl | ⟨d, e, -, -, rfl⟩
      · trivial
      · show ¬ ltr 32
        unfold ltr
        omega
    have hT2 : ne 45 W := by
      rcases hW with rfl | ⟨d, e, -, -, rfl⟩
      · trivial
      · show (32 : Nat) ≠ 45
        decide
    obtain ⟨r1, r2, r3⟩ := rg_read hl hR h hT1 hT2
    obtain ⟨w1, w2, w3⟩ := wt_read (T := []) hW (by rw [List.append_nil]; exact r3) (Or.inl rfl)
    have he := At_e w3
    unfold ls
    rw [r2, if_pos r1, if_pos w1, w2, if_neg (by omega)]
    exact ⟨rfl, rfl⟩
  | succ n ih =>
    intro r e a L V hr hE h
    obtain ⟨r, rfl⟩ : ∃ q, r = q + 1 := ⟨r - 1, by omega⟩
    obtain ⟨E, L', ⟨R, W, rfl, hR, hW⟩, rfl, hE'⟩ := hE
    have hT1 : nlt (W ++ (44 :: 32 :: L')) := by
      rcases hW with rfl | ⟨d, e, -, -, rfl⟩
      · show ¬ ltr 44
        unfold ltr
        omega
      · show ¬ ltr 32
        unfold ltr
        omega
    have hT2 : ne 45 (W ++ (44 :: 32 :: L')) := by
      rcases hW with rfl | ⟨d, e, -, -, rfl⟩
      · show (44 : Nat) ≠ 45
        decide
      · show (32 : Nat) ≠ 45
        decide
    rw [List.append_assoc] at h
    obtain ⟨r1, r2, r3⟩ := rg_read hl hR h hT1 hT2
    obtain ⟨w1, w2, w3⟩ := wt_read hW r3 (Or.inr ⟨_, rfl⟩)
    obtain ⟨a1, b1, g1⟩ := At_c w3
    obtain ⟨a2, b2, g2⟩ := At_c g1
    have s1 := At_sk1 g1 (ENS_h hE' (by decide))
    have ih' := ih r (e + 1) _ L' (putE V e (rg b tn l a).2.2.1 (rg b tn l a).2.2.2.1 (rg b tn l a).2.2.2.2 (wt b tn (a + R.length)).2.2) (by omega) hE' g2
    unfold ls
    rw [if_pos r1, r2, if_pos w1, w2, if_pos a1, if_pos b1, s1]
    exact ⟨ih'.1, by rw [ih'.2]; omega⟩
theorem lsW_read {l n : Nat} {L : List Nat} (hl : l < 3) (hn : n ≤ 10) (hE : ENS l n L) (h : At b tn 0 L) : (lsW b tn l).1 = 1 ∧ (lsW b tn l).2.2.1 = n := by
  cases n with
  | zero =>
    obtain rfl : L = [] := hE
    have e := At_e h
    have s0 : sk b tn 0 = 0 := At_sk h trivial
    unfold lsW
    rw [s0, if_neg (by omega)]
    exact ⟨rfl, rfl⟩
  | succ n =>
    have s0 : sk b tn 0 = 0 := At_sk h (ENS_h hE (by decide))
    have hlt : 0 < tn := by
      by_cases q : L = []
      · subst q
        cases n with
        | zero =>
          obtain ⟨R, W, e, hR, -⟩ := hE
          have := RNG_h (T := []) (c := 0) hR (by decide)
          cases R with
          | nil =>
            unfold RNG at hR
            by_cases q : l = 0
            · rw [if_pos q] at hR
              obtain ⟨p, s, e2, -⟩ := hR
              simp at e2
            · rw [if_neg q] at hR
              rcases hR with h | ⟨x, -, h⟩ | ⟨x, y, -, -, h⟩ <;> simp at h
          | cons x R => simp at e
        | succ n =>
          obtain ⟨E, L', -, e, -⟩ := hE
          simp at e
      · have := List.length_pos_iff.mpr q
        have := h.1
        omega
    unfold lsW
    rw [s0, if_pos hlt]
    have := ls_read hl n 10 0 0 L (fun _ => 0) (by omega) hE h
    exact ⟨this.1, by rw [this.2]; omega⟩
end TK

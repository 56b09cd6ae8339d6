/-! texts that the law types: what they read as -/
theorem low_ex (x : Int32) {m : Nat} (hm : 0 < m) (h31 : m < 2147483648) : ∃ k, k < m ∧ lowW x (nI m) = nI k := by
  obtain ⟨j, hj, e⟩ := pk_andE x (m := 2147483647) 31 (by decide)
  refine ⟨j - j / m * m, ?_, ?_⟩
  · have h1 := Nat.div_add_mod j m
    have h2 := Nat.mod_lt j hm
    rw [Nat.mul_comm] at h1
    omega
  · unfold lowW
    have hj' : j < 2147483648 := hj
    rw [e, nS.2.2.2.1 j m hj' hm h31, nS.2.1, nS.2.2.1 _ _ (Nat.div_mul_le_self j m)]
/-- from a on the text reads R, and ends there -/
def At (b : Nat → Nat) (tn a : Nat) (R : List Nat) : Prop := a + R.length = tn ∧ ∀ j, j < R.length → b (a + j) = gB R j
section TX2
variable {b : Nat → Nat} {tn a : Nat}
theorem At_c {x : Nat} {R : List Nat} (h : At b tn a (x :: R)) : a < tn ∧ b a = x ∧ At b tn (a + 1) R := by
  obtain ⟨h1, h2⟩ := h
  rw [List.length_cons] at h1 h2
  refine ⟨by omega, h2 0 (by omega), by omega, fun j hj => ?_⟩
  have := h2 (j + 1) (by omega)
  rw [show a + 1 + j = a + (j + 1) by omega]
  exact this
theorem At_e (h : At b tn a []) : a = tn := h.1
def nlt : List Nat → Prop
  | [] => True
  | y :: _ => ¬ ltr y
theorem At_nl {R : List Nat} (h : At b tn a R) (hn : nlt R) : ¬ (a < tn ∧ 97 ≤ b a ∧ b a ≤ 122) := by
  cases R with
  | nil => have := At_e h; omega
  | cons y R =>
    obtain ⟨h1, h2, -⟩ := At_c h
    intro q
    exact hn (by unfold ltr; omega)
def ne (c : Nat) : List Nat → Prop
  | [] => True
  | y :: _ => y ≠ c
theorem At_ne {R : List Nat} {c : Nat} (h : At b tn a R) (hn : ne c R) : ¬ tC b tn a c := by
  cases R with
  | nil => have := At_e h; intro q; have := q.1; omega
  | cons y R =>
    obtain ⟨h1, h2, -⟩ := At_c h
    intro q
    exact hn (h2.symm.trans q.2)
theorem At_sk {R : List Nat} (h : At b tn a R) (hn : ne 32 R) : sk b tn a = a := sk_stop a (At_ne h hn)
theorem At_sk1 {R : List Nat} (h : At b tn a (32 :: R)) (hn : ne 32 R) : sk b tn a = a + 1 := by
  obtain ⟨h1, h2, h3⟩ := At_c h
  rw [sk_eq, if_pos ⟨h1, h2⟩]
  exact At_sk h3 hn
/-- one or two letters -/
def wd (w : List Nat) : Prop := (∃ x, ltr x ∧ w = [x]) ∨ ∃ x y, ltr x ∧ ltr y ∧ w = [x, y]
theorem At_nm {w R : List Nat} (hw : wd w) (h : At b tn a (w ++ R)) (hn : nlt R) : tL b tn a ∧ nmA b tn a = a + w.length ∧ At b tn (a + w.length) R ∧ nmV b tn a ≠ 0 := by
  rcases hw with ⟨x, hx, rfl⟩ | ⟨x, y, hx, hy, rfl⟩
  · obtain ⟨h1, h2, h3⟩ := At_c h
    unfold ltr at hx
    have t : tL b tn a := ⟨h1, by omega⟩
    refine ⟨t, ?_, h3, nmV_nz t⟩
    show (nm8 b tn 4 0 a).2 = a + 1
    have e1 : nm8 b tn 4 0 a = nm8 b tn 3 (0 + b a * 256 ^ 3) (a + 1) := if_pos ⟨h1, by omega⟩
    have e2 : nm8 b tn 3 (0 + b a * 256 ^ 3) (a + 1) = (0 + b a * 256 ^ 3, a + 1) := if_neg (At_nl h3 hn)
    rw [e1, e2]
  · obtain ⟨h1, h2, h3⟩ := At_c h
    obtain ⟨h4, h5, h6⟩ := At_c h3
    unfold ltr at hx hy
    have t : tL b tn a := ⟨h1, by omega⟩
    refine ⟨t, ?_, h6, nmV_nz t⟩
    show (nm8 b tn 4 0 a).2 = a + 2
    have e1 : nm8 b tn 4 0 a = nm8 b tn 3 (0 + b a * 256 ^ 3) (a + 1) := if_pos ⟨h1, by omega⟩
    have e2 : nm8 b tn 3 (0 + b a * 256 ^ 3) (a + 1) = nm8 b tn 2 (0 + b a * 256 ^ 3 + b (a + 1) * 256 ^ 2) (a + 1 + 1) := if_pos ⟨h4, by omega⟩
    have e3 : nm8 b tn 2 (0 + b a * 256 ^ 3 + b (a + 1) * 256 ^ 2) (a + 1 + 1) = (0 + b a * 256 ^ 3 + b (a + 1) * 256 ^ 2, a + 1 + 1) := if_neg (At_nl h6 hn)
    rw [e1, e2, e3]
theorem wd_h {w R : List Nat} {c : Nat} (hw : wd w) (hc : c < 97) : ne c (w ++ R) := by
  rcases hw with ⟨x, hx, rfl⟩ | ⟨x, y, hx, hy, rfl⟩
  · show x ≠ c
    have := hx.1
    omega
  · show x ≠ c
    have := hx.1
    omega
/-- two digits at the end -/
theorem At_dg2 {d e : Nat} (hd : dgt d) (he : dgt e) (h : At b tn a [d, e]) : dg b tn 6 0 a = (10 * (d - 48) + (e - 48), a + 2) ∧ a + 2 = tn := by
  obtain ⟨h1, h2, h3⟩ := At_c h
  obtain ⟨h4, h5, h6⟩ := At_c h3
  have hn : a + 1 + 1 = tn := At_e h6
  unfold dgt at hd he
  have e1 : dg b tn 6 0 a = dg b tn 5 (10 * 0 + (b a - 48)) (a + 1) := if_pos ⟨h1, by omega⟩
  have e2 : dg b tn 5 (10 * 0 + (b a - 48)) (a + 1) = dg b tn 4 (10 * (10 * 0 + (b a - 48)) + (b (a + 1) - 48)) (a + 1 + 1) := if_pos ⟨h4, by omega⟩
  have e3 : dg b tn 4 (10 * (10 * 0 + (b a - 48)) + (b (a + 1) - 48)) (a + 1 + 1) = (10 * (10 * 0 + (b a - 48)) + (b (a + 1) - 48), a + 1 + 1) := if_neg (by omega)
  rw [e1, e2, e3, h2, h5]
  exact ⟨Prod.ext (by show 10 * (10 * 0 + (d - 48)) + (e - 48) = _; omega) rfl, hn⟩
/-- a variant's text -/
theorem adds_read {w1 w2 w3 w4 w5 : List Nat} {d e : Nat} (q1 : wd w1) (q2 : wd w2) (q3 : wd w3) (q4 : wd w4) (q5 : wd w5) (hd : dgt d) (he : dgt e) (h : At b tn 0 (w1 ++ (47 :: (w2 ++ (32 :: (w3 ++ (45 :: (w4 ++ (32 :: (w5 ++ (32 :: [d, e]))))))))))) : (vsW b tn).1 = 1 ∧ (vsW b tn).2.2 = 10 * (d - 48) + (e - 48) ∧ (G1 b tn).2.2.2.1 ≠ 0 ∧ (G1 b tn).2.2.2.2 = 0 ∧ (lsW b tn 0).1 = 0 := by
  have n47 : ∀ R, nlt (47 :: R) := fun R => by show ¬ ltr 47; unfold ltr; omega
  have n32 : ∀ R, nlt (32 :: R) := fun R => by show ¬ ltr 32; unfold ltr; omega
  have n45 : ∀ R, nlt (45 :: R) := fun R => by show ¬ ltr 45; unfold ltr; omega
  have s0 := At_sk h (wd_h q1 (by decide))
  obtain ⟨t1, m1, h1, -⟩ := At_nm q1 h (n47 _)
  obtain ⟨a1, c1, h2⟩ := At_c h1
  obtain ⟨t2, m2, h3, z2⟩ := At_nm q2 h2 (n32 _)
  obtain ⟨a3, c3, h4⟩ := At_c h3
  have s3 := At_sk1 h3 (wd_h q3 (by decide))
  obtain ⟨t4, m4, h5, z4⟩ := At_nm q3 h4 (n45 _)
  obtain ⟨a5, c5, h6⟩ := At_c h5
  obtain ⟨t6, m6, h7, z6⟩ := At_nm q4 h6 (n32 _)
  obtain ⟨a7, c7, h8⟩ := At_c h7
  have x7 : ¬ tC b tn _ 45 := At_ne h7 (show (32 : Nat) ≠ 45 by decide)
  have s7 := At_sk1 h7 (wd_h q5 (by decide))
  obtain ⟨t8, m8, h9, z8⟩ := At_nm q5 h8 (n32 _)
  obtain ⟨a9, c9, h10⟩ := At_c h9
  have s9 := At_sk1 h9 (show d ≠ 32 by unfold dgt at hd; omega)
  obtain ⟨g10, e10⟩ := At_dg2 hd he h10
  generalize hp1 : 0 + w1.length = p1 at *
  generalize hp2 : p1 + 1 + w2.length = p2 at *
  generalize hp3 : p2 + 1 + w3.length = p3 at *
  generalize hp4 : p3 + 1 + w4.length = p4 at *
  generalize hp5 : p4 + 1 + w5.length = p5 at *
  have f0 : G0 b tn = (1, p2, nmV b tn 0, nmV b tn (p1 + 1), 0) := by
    unfold G0 vr
    rw [s0, if_pos rfl]
    unfold vrT
    rw [if_pos t1, m1, if_pos ⟨a1, c1⟩, if_pos t2, m2]
  have f1 : G1 b tn = (1, p4, nmV b tn (p2 + 1), nmV b tn (p3 + 1), 0) := by
    unfold G1 vr
    rw [f0]
    show (if (1 : Nat) = 0 then vrT b tn (sk b tn p2) else if (1 : Nat) = 1 then rgL b tn (sk b tn p2) else vrC b tn (sk b tn p2)) = _
    rw [if_neg (by decide), if_pos rfl, s3]
    unfold rgL
    rw [if_pos t4, m4, if_pos ⟨a5, c5⟩, if_pos t6, m6, if_neg x7]
  have f2 : G2 b tn = (1, p5, nmV b tn (p4 + 1), 0, 0) := by
    unfold G2 vr
    rw [f1]
    show (if (2 : Nat) = 0 then vrT b tn (sk b tn p4) else if (2 : Nat) = 1 then rgL b tn (sk b tn p4) else vrC b tn (sk b tn p4)) = _
    rw [if_neg (by decide), if_neg (by decide), s7]
    unfold vrC
    rw [if_pos t8, m8]
  have fv : (vsW b tn).1 = 1 ∧ (vsW b tn).2.2 = 10 * (d - 48) + (e - 48) := by
    have u : vsW b tn = vs2 b tn (G2 b tn) := by
      unfold vsW vs0
      rw [f0]
      show (if (1 : Nat) = 1 then (if tC b tn p2 32 then vs1 b tn (vr b tn 1 (sk b tn p2)) else (0, p2, 0)) else (0, p2, 0)) = _
      rw [if_pos rfl, if_pos ⟨a3, c3⟩]
      have f1' : vr b tn 1 (sk b tn p2) = (1, p4, nmV b tn (p2 + 1), nmV b tn (p3 + 1), 0) := by
        have := f1
        unfold G1 at this
        rw [f0] at this
        exact this
      rw [f1']
      unfold vs1
      show (if (1 : Nat) = 1 then (if tC b tn p4 32 then vs2 b tn (vr b tn 2 (sk b tn p4)) else (0, p4, 0)) else (0, p4, 0)) = _
      rw [if_pos rfl, if_pos ⟨a7, c7⟩]
      have f2' : vr b tn 2 (sk b tn p4) = G2 b tn := by
        unfold G2
        rw [f1]
      rw [f2']
    rw [u, f2]
    unfold vs2
    have y : sk b tn (p5 + 1 + 2) = p5 + 1 + 2 := sk_stop _ (fun q => by have := q.1; omega)
    dsimp only
    rw [if_pos rfl, if_pos ⟨a9, c9⟩, s9, g10]
    dsimp only
    rw [if_pos (by omega), y, if_neg (by omega)]
    exact ⟨rfl, rfl⟩
  refine ⟨fv.1, fv.2, ?_, ?_, ?_⟩
  · rw [f1]
    exact z6
  · rw [f1]
  · unfold lsW
    rw [s0, if_pos t1.1]
    have r0 : rg b tn 0 0 = (1, p2, nmV b tn 0, nmV b tn (p1 + 1), 0) := by
      unfold rg rgT
      rw [if_pos rfl, if_neg (At_ne h (wd_h q1 (by decide))), if_pos t1, m1, if_pos ⟨a1, c1⟩, if_neg (At_ne h2 (wd_h q2 (by decide))), if_pos t2, m2]
    have w0 : wt b tn p2 = (1, p2 + 1, 1000) := by
      unfold wt
      rw [s3, if_neg (At_ne h4 (wd_h q3 (by decide)))]
    show (if (rg b tn 0 0).1 = 1 then _ else _ : Nat × Nat × Nat × (Nat → Nat)).1 = 0
    rw [r0]
    dsimp only
    rw [if_pos rfl, w0]
    dsimp only
    rw [if_pos rfl, if_pos t4.1, if_neg (by have := t4.2; omega)]
end TX2

/-! typing: class and reference -/
theorem nar_b : ∀ x, x < 128 → vp_nar .byte (nI x).toInt8.toInt32 = nI x := by decide +kernel
def put1 (b : Nat → Nat) (tn x : Nat) : Nat → Nat := fun j => if j = tn then x else b j
theorem put1_e (b : Nat → Nat) (tn x : Nat) : upd (tB b) tn (nI x) = tB (put1 b tn x) := by
  funext j
  rw [upd_at]
  show _ = nI (put1 b tn x j)
  unfold put1
  by_cases q : j = tn
  · rw [if_pos q, if_pos q]
  · rw [if_neg q, if_neg q]
theorem put1_b {b : Nat → Nat} {tn x : Nat} (hb : ∀ j, b j < 128) (hx : x < 128) : ∀ j, put1 b tn x j < 128 := by
  intro j
  unfold put1
  split
  · exact hx
  · exact hb j
/-! a variant's things against a range -/
def vo (k : Nat) : Nat := if k = 0 then 0 else if k = 1 then 2 else 5
def vc (M : Nat → Nat) (v k i : Nat) : Nat := M (10 + 8 * v + vo k + i)
/-- the range (x0, x1, x2) fits the things (y0, y1, y2) -/
abbrev fits (x0 x1 x2 y0 y1 y2 : Nat) : Prop := (x0 ≠ 0 → x0 = y0) ∧ (x1 ≠ 0 → x1 = y1) ∧ (x2 ≠ 0 → x2 = y2)
abbrev fitE (M : Nat → Nat) (l e v : Nat) : Prop := fits (M (ec l e)) (M (ec l e + 1)) (M (ec l e + 2)) (vc M v (l % 3) 0) (vc M v (l % 3) 1) (vc M v (l % 3) 2)
abbrev cnE (M : Nat → Nat) (l e : Nat) : Nat := cn (M (ec l e)) (M (ec l e + 1)) (M (ec l e + 2))
theorem lmod3 (l : Nat) : l - l / 3 * 3 = l % 3 := by omega
theorem xor_z {a b : Nat} : a ^^^ b = 0 ↔ a = b := by
  refine ⟨fun h => Nat.eq_of_testBit_eq (fun i => ?_), fun h => by rw [h, Nat.xor_self]⟩
  have q : (a ^^^ b).testBit i = (0 : Nat).testBit i := by rw [h]
  rw [Nat.testBit_xor, Nat.zero_testBit] at q
  revert q
  cases a.testBit i <;> cases b.testBit i <;> decide
theorem xor_sh {a b s : Nat} (ha : a < 2 ^ 63) (hb : b < 2 ^ 63) (hs : s < 64) : (((lN a ^^^ lN b).toUInt64 >>> ((lN s).toUInt64 &&& Int64.toUInt64 63)).toInt64 = lN 0) = (a / 2 ^ s = b / 2 ^ s) := by
  have e : lN a ^^^ lN b = lN (a ^^^ b) := by
    apply wb_inj
    rw [Int64.toBitVec_xor, wb_tb, wb_tb, wb_tb]
    apply BitVec.eq_of_toNat_eq
    rw [BitVec.toNat_xor, BitVec.toNat_ofNat, BitVec.toNat_ofNat, BitVec.toNat_ofNat, Nat.mod_eq_of_lt (by omega), Nat.mod_eq_of_lt (by omega), Nat.mod_eq_of_lt (by have := Nat.xor_lt_two_pow ha hb; omega)]
  have hx : a ^^^ b < 2 ^ 63 := Nat.xor_lt_two_pow ha hb
  rw [e, lS.2.2.2.1 _ _ hx hs, lS.2.2.2.2.1 _ _ (Nat.lt_of_le_of_lt (Nat.div_le_self _ _) hx) (by decide)]
  rw [← Nat.shiftRight_eq_div_pow, ← Nat.shiftRight_eq_div_pow, ← Nat.shiftRight_eq_div_pow, Nat.shiftRight_xor_distrib]
  exact propext xor_z
theorem k5fit {l x0 x1 x2 y0 y1 y2 : Nat} (hl : l < 3) (hx : okR l x0 x1 x2) (hy : okR l y0 y1 y2) : (k5 l y0 y1 y2 / 2 ^ (20 * (ml l - cn x0 x1 x2)) = k5 l x0 x1 x2 / 2 ^ (20 * (ml l - cn x0 x1 x2))) = fits x0 x1 x2 y0 y1 y2 := by
  obtain ⟨o0, o1, o2, z0, z1, z2, z3⟩ := hx
  obtain ⟨p0, p1, p2, t0, t1, t2, t3⟩ := hy
  have a0 := c5_lt o0; have a1 := c5_lt o1; have a2 := c5_lt o2
  have b0 := c5_lt p0; have b1 := c5_lt p1; have b2 := c5_lt p2
  have i0 := c5_inj o0 p0; have i1 := c5_inj o1 p1; have i2 := c5_inj o2 p2
  have d0 := c5_z o0; have d1 := c5_z o1; have d2 := c5_z o2
  unfold fits
  rcases (show l = 0 ∨ l = 1 ∨ l = 2 by omega) with rfl | rfl | rfl
  · have hx2 := z2 rfl
    have hy2 := t2 rfl
    subst hx2
    subst hy2
    rw [k5e0, k5e0]
    by_cases q0 : x0 = 0
    · have q1 := z0 q0
      subst q0
      subst q1
      show ((c5 y0 * 1048576 + c5 y1) / 1099511627776 = (c5 0 * 1048576 + c5 0) / 1099511627776) = _
      exact propext ⟨fun _ => ⟨fun z => absurd rfl z, fun z => absurd rfl z, fun z => absurd rfl z⟩, fun _ => by rw [c5_0]; omega⟩
    · by_cases q1 : x1 = 0
      · subst q1
        rw [cn_1 q0]
        show ((c5 y0 * 1048576 + c5 y1) / 1048576 = (c5 x0 * 1048576 + c5 0) / 1048576) = _
        rw [c5_0]
        refine propext ⟨fun h => ⟨fun _ => i0.mp (by omega), fun z => absurd rfl z, fun z => absurd rfl z⟩, fun h => ?_⟩
        have := i0.mpr (h.1 q0)
        omega
      · rw [cn_2 q0 q1]
        show ((c5 y0 * 1048576 + c5 y1) / 1 = (c5 x0 * 1048576 + c5 x1) / 1) = _
        refine propext ⟨fun h => ⟨fun _ => i0.mp (by omega), fun _ => i1.mp (by omega), fun z => absurd rfl z⟩, fun h => ?_⟩
        have := i0.mpr (h.1 q0)
        have := i1.mpr (h.2.1 q1)
        omega
  · rw [k5e1, k5e1]
    by_cases q0 : x0 = 0
    · have q1 := z0 q0
      have q2 := z1 q1
      subst q0
      subst q1
      subst q2
      show ((c5 y0 * 1099511627776 + c5 y1 * 1048576 + c5 y2) / 1152921504606846976 = (c5 0 * 1099511627776 + c5 0 * 1048576 + c5 0) / 1152921504606846976) = _
      exact propext ⟨fun _ => ⟨fun z => absurd rfl z, fun z => absurd rfl z, fun z => absurd rfl z⟩, fun _ => by rw [c5_0]; omega⟩
    · by_cases q1 : x1 = 0
      · have q2 := z1 q1
        subst q1
        subst q2
        rw [cn_1 q0]
        show ((c5 y0 * 1099511627776 + c5 y1 * 1048576 + c5 y2) / 1099511627776 = (c5 x0 * 1099511627776 + c5 0 * 1048576 + c5 0) / 1099511627776) = _
        rw [c5_0]
        refine propext ⟨fun h => ⟨fun _ => i0.mp (by omega), fun z => absurd rfl z, fun z => absurd rfl z⟩, fun h => ?_⟩
        have := i0.mpr (h.1 q0)
        omega
      · by_cases q2 : x2 = 0
        · subst q2
          rw [cn_2 q0 q1]
          show ((c5 y0 * 1099511627776 + c5 y1 * 1048576 + c5 y2) / 1048576 = (c5 x0 * 1099511627776 + c5 x1 * 1048576 + c5 0) / 1048576) = _
          rw [c5_0]
          refine propext ⟨fun h => ⟨fun _ => i0.mp (by omega), fun _ => i1.mp (by omega), fun z => absurd rfl z⟩, fun h => ?_⟩
          have := i0.mpr (h.1 q0)
          have := i1.mpr (h.2.1 q1)
          omega
        · rw [cn_3 q0 q1 q2]
          show ((c5 y0 * 1099511627776 + c5 y1 * 1048576 + c5 y2) / 1 = (c5 x0 * 1099511627776 + c5 x1 * 1048576 + c5 x2) / 1) = _
          refine propext ⟨fun h => ⟨fun _ => i0.mp (by omega), fun _ => i1.mp (by omega), fun _ => i2.mp (by omega)⟩, fun h => ?_⟩
          have := i0.mpr (h.1 q0)
          have := i1.mpr (h.2.1 q1)
          have := i2.mpr (h.2.2 q2)
          omega
  · have hx1 := z3 rfl
    have hx2 := z1 hx1
    have hy1 := t3 rfl
    have hy2 := t1 hy1
    subst hx1
    subst hx2
    subst hy1
    subst hy2
    rw [k5e2, k5e2]
    by_cases q0 : x0 = 0
    · subst q0
      show (c5 y0 / 1048576 = c5 0 / 1048576) = _
      exact propext ⟨fun _ => ⟨fun z => absurd rfl z, fun z => absurd rfl z, fun z => absurd rfl z⟩, fun _ => by rw [c5_0]; omega⟩
    · rw [cn_1 q0]
      show (c5 y0 / 1 = c5 x0 / 1) = _
      refine propext ⟨fun h => ⟨fun _ => i0.mp (by omega), fun z => absurd rfl z, fun z => absurd rfl z⟩, fun h => ?_⟩
      have := i0.mpr (h.1 q0)
      omega


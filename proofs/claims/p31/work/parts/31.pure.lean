/-! numbers: small naturals as ints and longs, in one bundle each for simp -/
/-! ===== lN n to 2^64: shifts, and, or, masks, one bit ===== -/
theorem wb_tb (n : Nat) : (lN n).toBitVec = BitVec.ofNat 64 n := rfl
theorem wb_inj {a b : Int64} (h : a.toBitVec = b.toBitVec) : a = b := Int64.toBitVec_inj.mp h
theorem wb_tn {n : Nat} (h : n < 2 ^ 64) : (lN n).toBitVec.toNat = n := by rw [wb_tb, BitVec.toNat_ofNat, Nat.mod_eq_of_lt h]
theorem wb_of (x : Int64) : ∃ n, n < 2 ^ 64 ∧ x = lN n := ⟨x.toBitVec.toNat, x.toBitVec.isLt, wb_inj (by rw [wb_tb]; simp)⟩
theorem wb_of32 (x : Int32) : ∃ n, n < 2 ^ 32 ∧ x = nI n := ⟨x.toBitVec.toNat, x.toBitVec.isLt, Int32.toBitVec_inj.mp (by show _ = BitVec.ofNat 32 _; simp)⟩
theorem wb_c : ∀ k, k < 64 → ((nI k).toInt64 &&& 63) = lN k := by decide +kernel
theorem wb_cu : ∀ k, k < 64 → ((nI k).toInt64.toUInt64 &&& Int64.toUInt64 63) = UInt64.ofNat k := by decide +kernel
theorem wb_sm : ∀ k, k < 64 → (BitVec.ofNat 64 k).smod 64 = BitVec.ofNat 64 k := by decide +kernel
theorem wb_pw {a b : Nat} (h : a ≤ b) : 2 ^ b = 2 ^ a * 2 ^ (b - a) := by rw [← Nat.pow_add]; congr 1; omega
theorem wb_lt2 {a b : Nat} (h : a < b) : 2 ^ a < 2 ^ b := Nat.pow_lt_pow_right (by decide) h
theorem wb_mod (n : Nat) : lN n = lN (n % 2 ^ 64) := wb_inj (by rw [wb_tb, wb_tb]; apply BitVec.eq_of_toNat_eq; rw [BitVec.toNat_ofNat, BitVec.toNat_ofNat, Nat.mod_mod])
theorem wb_shr {n k : Nat} (hn : n < 2 ^ 64) (hk : k < 64) : ((lN n).toUInt64 >>> ((nI k).toInt64.toUInt64 &&& Int64.toUInt64 63)).toInt64 = lN (n / 2 ^ k) := by
  rw [wb_cu k hk]
  apply wb_inj
  apply BitVec.eq_of_toNat_eq
  show ((lN n).toUInt64 >>> UInt64.ofNat k).toNat = (BitVec.ofNat 64 _).toNat
  have h1 : (UInt64.ofNat k).toNat = k := by
    show (BitVec.ofNat 64 k).toNat = k
    rw [BitVec.toNat_ofNat, Nat.mod_eq_of_lt (by omega)]
  have h2 : (lN n).toUInt64.toNat = n := wb_tn hn
  rw [UInt64.toNat_shiftRight, h1, h2, Nat.mod_eq_of_lt hk, Nat.shiftRight_eq_div_pow, BitVec.toNat_ofNat, Nat.mod_eq_of_lt (Nat.lt_of_le_of_lt (Nat.div_le_self _ _) hn)]
theorem wb_shl (n : Nat) {k : Nat} (hk : k < 64) : lN n <<< ((nI k).toInt64 &&& 63) = lN (n * 2 ^ k) := by
  rw [wb_c k hk]
  apply wb_inj
  rw [Int64.toBitVec_shiftLeft, wb_tb, wb_tb, wb_tb, wb_sm k hk]
  apply BitVec.eq_of_toNat_eq
  rw [BitVec.shiftLeft_eq', BitVec.toNat_shiftLeft, BitVec.toNat_ofNat, BitVec.toNat_ofNat, BitVec.toNat_ofNat, Nat.mod_eq_of_lt (show k < 2 ^ 64 by omega), Nat.shiftLeft_eq, Nat.mul_mod, Nat.mod_mod, ← Nat.mul_mod]
theorem wb_and {a b : Nat} (ha : a < 2 ^ 64) (hb : b < 2 ^ 64) : lN a &&& lN b = lN (a &&& b) := by
  apply wb_inj
  rw [Int64.toBitVec_and, wb_tb, wb_tb, wb_tb]
  apply BitVec.eq_of_toNat_eq
  rw [BitVec.toNat_and, BitVec.toNat_ofNat, BitVec.toNat_ofNat, BitVec.toNat_ofNat, Nat.mod_eq_of_lt ha, Nat.mod_eq_of_lt hb, Nat.mod_eq_of_lt (Nat.and_lt_two_pow _ hb)]
theorem wb_or {a b : Nat} (ha : a < 2 ^ 64) (hb : b < 2 ^ 64) : lN a ||| lN b = lN (a ||| b) := by
  apply wb_inj
  rw [Int64.toBitVec_or, wb_tb, wb_tb, wb_tb]
  apply BitVec.eq_of_toNat_eq
  rw [BitVec.toNat_or, BitVec.toNat_ofNat, BitVec.toNat_ofNat, BitVec.toNat_ofNat, Nat.mod_eq_of_lt ha, Nat.mod_eq_of_lt hb, Nat.mod_eq_of_lt (Nat.or_lt_two_pow ha hb)]
theorem wb_mask {n k : Nat} (hn : n < 2 ^ 64) (hk : k < 64) : lN n &&& lN (2 ^ k - 1) = lN (n % 2 ^ k) := by
  rw [wb_and hn (by have := wb_lt2 hk; omega), Nat.and_two_pow_sub_one_eq_mod]
theorem wb_a1 {n : Nat} (hn : n < 2 ^ 64) : lN n &&& 1 = lN (n % 2) := wb_mask (k := 1) hn (by decide)
theorem wb_bit {n k : Nat} (hn : n < 2 ^ 64) (hk : k < 64) : ((lN n).toUInt64 >>> ((nI k).toInt64.toUInt64 &&& Int64.toUInt64 63)).toInt64 &&& 1 = lN (n / 2 ^ k % 2) := by
  rw [wb_shr hn hk, wb_a1 (Nat.lt_of_le_of_lt (Nat.div_le_self _ _) hn)]

theorem zl : (0 : Int32) = nI 0 ∧ (1 : Int32) = nI 1 ∧ (2 : Int32) = nI 2 ∧ (3 : Int32) = nI 3 ∧ (4 : Int32) = nI 4 ∧ (5 : Int32) = nI 5 ∧ (6 : Int32) = nI 6 ∧ (7 : Int32) = nI 7 ∧ (8 : Int32) = nI 8 ∧ (9 : Int32) = nI 9 ∧ (10 : Int32) = nI 10 ∧ (11 : Int32) = nI 11 ∧ (12 : Int32) = nI 12 ∧ (13 : Int32) = nI 13 ∧ (14 : Int32) = nI 14 ∧ (15 : Int32) = nI 15 ∧ (16 : Int32) = nI 16 ∧ (17 : Int32) = nI 17 ∧ (18 : Int32) = nI 18 ∧ (19 : Int32) = nI 19 ∧ (20 : Int32) = nI 20 ∧ (21 : Int32) = nI 21 ∧ (22 : Int32) = nI 22 ∧ (23 : Int32) = nI 23 ∧ (24 : Int32) = nI 24 ∧ (25 : Int32) = nI 25 ∧ (26 : Int32) = nI 26 ∧ (27 : Int32) = nI 27 ∧ (31 : Int32) = nI 31 ∧ (32 : Int32) = nI 32 ∧ (40 : Int32) = nI 40 ∧ (42 : Int32) = nI 42 ∧ (44 : Int32) = nI 44 ∧ (45 : Int32) = nI 45 ∧ (47 : Int32) = nI 47 ∧ (48 : Int32) = nI 48 ∧ (57 : Int32) = nI 57 ∧ (59 : Int32) = nI 59 ∧ (60 : Int32) = nI 60 ∧ (63 : Int32) = nI 63 ∧ (96 : Int32) = nI 96 ∧ (97 : Int32) = nI 97 ∧ (100 : Int32) = nI 100 ∧ (120 : Int32) = nI 120 ∧ (122 : Int32) = nI 122 ∧ (127 : Int32) = nI 127 ∧ (138 : Int32) = nI 138 ∧ (258 : Int32) = nI 258 ∧ (378 : Int32) = nI 378 ∧ (512 : Int32) = nI 512 ∧ (513 : Int32) = nI 513 ∧ (608 : Int32) = nI 608 ∧ (800 : Int32) = nI 800 ∧ (1000 : Int32) = nI 1000 ∧ (1134 : Int32) = nI 1134 ∧ (1512 : Int32) = nI 1512 ∧ (12856 : Int32) = nI 12856 ∧ (100000 : Int32) = nI 100000 ∧ (299008 : Int32) = nI 299008 ∧ (999999 : Int32) = nI 999999 ∧ (1048575 : Int32) = nI 1048575 ∧ (1768161280 : Int32) = nI 1768161280 := ⟨rfl, rfl, rfl, rfl, rfl, rfl, rfl, rfl, rfl, rfl, rfl, rfl, rfl, rfl, rfl, rfl, rfl, rfl, rfl, rfl, rfl, rfl, rfl, rfl, rfl, rfl, rfl, rfl, rfl, rfl, rfl, rfl, rfl, rfl, rfl, rfl, rfl, rfl, rfl, rfl, rfl, rfl, rfl, rfl, rfl, rfl, rfl, rfl, rfl, rfl, rfl, rfl, rfl, rfl, rfl, rfl, rfl, rfl, rfl, rfl, rfl, rfl⟩
def nM : Int32 := -1
theorem nM_e : -nI 1 = nM := rfl
theorem nM_t : nM.toInt = -1 := by decide
theorem nI_t {n : Nat} (h : n < 2147483648) : (nI n).toInt = (n : Int) := nI_toInt h
theorem nS : (∀ a b : Nat, nI a + nI b = nI (a + b)) ∧ (∀ a b : Nat, nI a * nI b = nI (a * b)) ∧ (∀ a b : Nat, b ≤ a → nI a - nI b = nI (a - b)) ∧ (∀ a d : Nat, a < 2147483648 → 0 < d → d < 2147483648 → nI a / nI d = nI (a / d))
  ∧ (∀ a : Nat, a < 2147483648 → (nI a).toNatClampNeg = a) ∧ (∀ a : Nat, a < 2147483648 → (nI a).toInt = (a : Int)) ∧ (∀ a : Nat, a < 2147483648 → (nI a).toInt64 = lN a) ∧ (∀ a b : Nat, a < 2147483648 → b < 2147483648 → ((nI a ≤ nI b) = (a ≤ b))) ∧ (∀ a b : Nat, a < 2147483648 → b < 2147483648 → ((nI a < nI b) = (a < b))) ∧ (∀ a b : Nat, a < 2147483648 → b < 2147483648 → ((nI a = nI b) = (a = b)))
  ∧ (∀ a n : Nat, a < 2147483648 → (vp_in (nI a) n = (a < n))) := by
  refine ⟨nI_add, pk_mul, fun a b h => pk_sub h, fun a d h h0 h1 => pk_div h h0 h1, fun a h => nI_clamp h, fun a h => nI_toInt h, fun a h => nI_l h, fun a b h h1 => propext (nI_leI h h1), fun a b h h1 => propext (nI_ltI h h1), fun a b h h1 => propext (nI_eq h h1), fun a n h => propext ⟨fun q => ?_, fun q => ?_⟩⟩
  · have := vp_in_iff.mp q
    rw [nI_toInt h] at this
    omega
  · exact vp_in_iff.mpr (by rw [nI_toInt h]; omega)
theorem nSm : (-nI 1 = nM) ∧ (∀ a : Nat, a < 2147483648 → ((nI a = nM) = False)) ∧ (∀ a : Nat, a < 2147483648 → ((nM = nI a) = False)) ∧ (∀ a : Nat, a < 2147483648 → ((nI a ≤ nM) = False)) ∧ (∀ a : Nat, a < 2147483648 → ((nM ≤ nI a) = True)) ∧ (∀ a : Nat, a < 2147483648 → ((nI a < nM) = False)) ∧ (∀ a : Nat, a < 2147483648 → ((nM < nI a) = True)) ∧ (nM < nM) = False ∧ (nM ≤ nM) = True ∧ (nM = nM) = True := by
  refine ⟨rfl, fun a h => ?_, fun a h => ?_, fun a h => ?_, fun a h => ?_, fun a h => ?_, fun a h => ?_, ?_, ?_, ?_⟩
  · exact propext ⟨fun q => by have := congrArg Int32.toInt q; rw [nI_t h, nM_t] at this; omega, False.elim⟩
  · exact propext ⟨fun q => by have := congrArg Int32.toInt q; rw [nI_t h, nM_t] at this; omega, False.elim⟩
  · exact propext ⟨fun q => by rw [Int32.le_iff_toInt_le, nI_t h, nM_t] at q; omega, False.elim⟩
  · exact propext ⟨fun _ => trivial, fun _ => by rw [Int32.le_iff_toInt_le, nI_t h, nM_t]; omega⟩
  · exact propext ⟨fun q => by rw [Int32.lt_iff_toInt_lt, nI_t h, nM_t] at q; omega, False.elim⟩
  · exact propext ⟨fun _ => trivial, fun _ => by rw [Int32.lt_iff_toInt_lt, nI_t h, nM_t]; omega⟩
  · exact propext ⟨fun q => by revert q; decide, False.elim⟩
  · exact propext ⟨fun _ => trivial, fun _ => by decide⟩
  · exact propext ⟨fun _ => trivial, fun _ => rfl⟩
theorem lS : (∀ a b : Nat, lN a + lN b = lN (a + b)) ∧ (∀ a b : Nat, lN a * lN b = lN (a * b)) ∧ (∀ (a k : Nat), k < 64 → lN a <<< (lN k &&& 63) = lN (a * 2 ^ k)) ∧ (∀ (a k : Nat), a < 9223372036854775808 → k < 64 → ((lN a).toUInt64 >>> ((lN k).toUInt64 &&& Int64.toUInt64 63)).toInt64 = lN (a / 2 ^ k)) ∧ (∀ a b : Nat, a < 9223372036854775808 → b < 9223372036854775808 → ((lN a = lN b) = (a = b))) ∧ (∀ a b : Nat, a < 9223372036854775808 → b < 9223372036854775808 → ((lN a < lN b) = (a < b))) ∧ (∀ a b : Nat, a < 9223372036854775808 → b < 9223372036854775808 → ((lN a ≤ lN b) = (a ≤ b))) := by
  refine ⟨lN_add, lN_mul, fun a k h => ?_, fun a k h h1 => ?_, fun a b h h1 => propext (pk_lEQ h h1), fun a b h h1 => propext (pk_lLT h h1), fun a b h h1 => propext (pk_lLE h h1)⟩
  · rw [← nI_l (n := k) (by omega)]; exact wb_shl a h
  · rw [← nI_l (n := k) (by omega)]; exact wb_shr (by omega) h1
theorem zL : (0 : Int64) = lN 0 ∧ (1 : Int64) = lN 1 ∧ (2 : Int64) = lN 2 ∧ (299008 : Int64) = lN 299008 ∧ (1048575 : Int64) = lN 1048575 := ⟨rfl, rfl, rfl, rfl, rfl⟩
theorem cmp0 {a b : Nat} (ha : a < 9223372036854775808) (hb : b < 9223372036854775808) : (lg_cmp (lN a) (lN b) = nI 0) = (a = b) := by
  unfold lg_cmp
  have h1 : (lN a > lN b) = (b < a) := by
    show (lN b < lN a) = _
    exact propext (pk_lLT hb ha)
  have h2 : (lN a = lN b) = (a = b) := propext (pk_lEQ ha hb)
  simp only [h1, h2]
  by_cases q : b < a
  · simp only [q, if_true]
    exact propext ⟨fun z => absurd z (by decide), fun z => by omega⟩
  · simp only [q, if_false]
    by_cases r : a = b
    · simp only [r, if_true]
      exact eq_true rfl
    · simp only [r, if_false]
      exact propext ⟨fun z => absurd z (by decide), fun z => z.elim⟩
theorem br_and {c : Prop} {A B : Prop} (a : c → A) (b : ¬ c → B) : (c → A) ∧ (¬ c → B) := ⟨a, b⟩
theorem upd_at (f : Nat → Int32) (i : Nat) (x : Int32) (j : Nat) : upd f i x j = if j = i then x else f j := rfl
theorem updL_at (f : Nat → Int64) (i : Nat) (x : Int64) (j : Nat) : vp_updL f i x j = if j = i then x else f j := rfl
/-- a counted loop: what it makes of acc, from a on, r times -/
def fr {α : Type} (f : Nat → α → α) : Nat → Nat → α → α
  | _, 0, acc => acc
  | a, r + 1, acc => fr f (a + 1) r (f a acc)
theorem fr_cong {α : Type} {f g : Nat → α → α} : ∀ (r a : Nat) (acc : α), (∀ x acc, a ≤ x → x < a + r → f x acc = g x acc) → fr f a r acc = fr g a r acc
  | 0, _, _, _ => rfl
  | r + 1, a, acc, h => by
    show fr f (a + 1) r (f a acc) = fr g (a + 1) r (g a acc)
    rw [h a acc (Nat.le_refl _) (by omega)]
    exact fr_cong r (a + 1) _ (fun x acc h1 h2 => h x acc (by omega) (by omega))
theorem fr_succ {α : Type} (f : Nat → α → α) : ∀ (r a : Nat) (acc : α), fr f a (r + 1) acc = f (a + r) (fr f a r acc)
  | 0, _, _ => rfl
  | r + 1, a, acc => by
    show fr f (a + 1) (r + 1) (f a acc) = _
    rw [fr_succ f r (a + 1) (f a acc)]
    show f (a + 1 + r) _ = f (a + (r + 1)) _
    rw [show a + 1 + r = a + (r + 1) by omega]
    rfl

theorem n01 : ¬ (0 : Nat) = 1 := by decide
theorem p256 : (256 : Nat) ^ 3 = 16777216 ∧ (256 : Nat) ^ 2 = 65536 ∧ (256 : Nat) ^ 1 = 256 ∧ (256 : Nat) ^ 0 = 1 := ⟨rfl, rfl, rfl, rfl⟩
/-! the text: what stands at a place, spaces, digits, names; class and reference read alike -/
def tH (b : Nat → Nat) (tn a : Nat) : Int32 := if a < tn then nI (b a) else nM
abbrev tC (b : Nat → Nat) (tn a c : Nat) : Prop := a < tn ∧ b a = c
abbrev tL (b : Nat → Nat) (tn a : Nat) : Prop := a < tn ∧ 97 ≤ b a ∧ b a ≤ 122
abbrev tD (b : Nat → Nat) (tn a : Nat) : Prop := a < tn ∧ 48 ≤ b a ∧ b a ≤ 57
abbrev tB (b : Nat → Nat) : Nat → Int32 := fun j => nI (b j)
def bI (p : Prop) [Decidable p] : Int32 := if p then nI 1 else nI 0
theorem bI_0 (p : Prop) [Decidable p] : (bI p = nI 0) = ¬ p := by
  unfold bI
  by_cases h : p
  · simp only [h, if_true]; exact propext ⟨fun z => absurd z (by decide), fun z => (z trivial).elim⟩
  · simp only [h, if_false]; exact propext ⟨fun _ => fun z => z, fun _ => trivial⟩
section TX
variable {b : Nat → Nat} {tn : Nat}
theorem tH_in {a : Nat} (h : a < tn) : tH b tn a = nI (b a) := if_pos h
theorem tH_out {a : Nat} (h : ¬ a < tn) : tH b tn a = nM := if_neg h
theorem tHS (hb : ∀ j, b j < 128) : (∀ a c, c < 128 → ((tH b tn a = nI c) = (a < tn ∧ b a = c))) ∧ (∀ a c, c < 128 → ((tH b tn a < nI c) = ¬ (a < tn ∧ c ≤ b a))) ∧ (∀ a c, c < 128 → ((nI c < tH b tn a) = (a < tn ∧ c < b a))) ∧ (∀ a c, c < 128 → ((nI c ≤ tH b tn a) = (a < tn ∧ c ≤ b a))) ∧ (∀ a c, c < 128 → ((tH b tn a ≤ nI c) = ¬ (a < tn ∧ c < b a))) := by
  refine ⟨fun a c hc => ?_, fun a c hc => ?_, fun a c hc => ?_, fun a c hc => ?_, fun a c hc => ?_⟩ <;> (have := hb a; by_cases h : a < tn)
  all_goals first | (rw [tH_in h]; simp (disch := omega) only [nS]; simp only [h, true_and, Nat.not_le, Nat.not_lt]) | (rw [tH_out h]; simp (disch := omega) only [nSm]; simp only [h, false_and, not_false_eq_true])
theorem s_byteAt {N a : Nat} {Q : Int32 → Prop} (htn : tn ≤ 120) (ha : a < 1000) (hq : Q (tH b tn a)) : p_X4_byteAt N (nI tn) (tB b) (nI a) Q := by
  unfold p_X4_byteAt
  simp (disch := omega) only [zl, nS, nSm]
  refine ⟨fun h => absurd h (by omega), fun _ => ⟨fun h => ?_, fun h => ⟨by omega, ?_⟩⟩⟩
  · rwa [tH_out (by omega)] at hq
  · rwa [tH_in (by omega)] at hq
theorem s_peek {N a : Nat} {t_number : Int32} {t_key : Int64} {t_keyNames t_entries t_size : Int32} {Q : Int32 → Prop} (htn : tn ≤ 120) (ha : a < 1000) (hq : Q (tH b tn a)) : p_X1_peek N (nI a) t_number t_key t_keyNames t_entries t_size (nI tn) (tB b) Q := by
  unfold p_X1_peek
  exact s_byteAt htn ha hq
/-- behind the spaces from a on -/
def tS (b : Nat → Nat) (tn : Nat) : Nat → Nat → Nat
  | 0, a => a
  | r + 1, a => if a < tn ∧ b a = 32 then tS b tn r (a + 1) else a
def sk (b : Nat → Nat) (tn a : Nat) : Nat := tS b tn (tn - a) a
theorem sk_eq (a : Nat) : sk b tn a = if a < tn ∧ b a = 32 then sk b tn (a + 1) else a := by
  unfold sk
  by_cases h : a < tn
  · rw [show tn - a = (tn - (a + 1)) + 1 by omega]
    rfl
  · rw [show tn - a = 0 by omega, if_neg (fun q => h q.1)]
    rfl
theorem sk_bd : ∀ (r a : Nat), tn - a ≤ r → a ≤ sk b tn a ∧ (sk b tn a ≤ tn ∨ sk b tn a = a)
  | 0, a, h => by rw [sk_eq, if_neg (fun q => by omega)]; exact ⟨Nat.le_refl _, Or.inr rfl⟩
  | r + 1, a, h => by
    rw [sk_eq]
    by_cases q : a < tn ∧ b a = 32
    · rw [if_pos q]
      have h1 := sk_bd r (a + 1) (by omega)
      exact ⟨by omega, by omega⟩
    · rw [if_neg q]; exact ⟨Nat.le_refl _, Or.inr rfl⟩
theorem sk_ge (a : Nat) : a ≤ sk b tn a := (sk_bd _ a (Nat.le_refl _)).1
theorem sk_le (a : Nat) : sk b tn a ≤ tn ∨ sk b tn a = a := (sk_bd _ a (Nat.le_refl _)).2
theorem s_skipSpaces_0 {N : Nat} {c0 c2 c3 c4 : Int32} {c1 : Int64} {K : Int32 → Prop} (hb : ∀ j, b j < 128) (htn : tn ≤ 120) : ∀ (n a : Nat), tn - a < n → a < 500 → K (nI (sk b tn a)) → p_X1_skipSpaces_0 N c0 c1 c2 c3 c4 (nI tn) (tB b) K n (nI a) := by
  intro n
  induction n with
  | zero => intro a h; omega
  | succ n ih =>
    intro a hn ha hk
    unfold p_X1_skipSpaces_0
    rw [sk_eq] at hk
    simp (disch := omega) only [zl, nS]
    refine ⟨fun h => ?_, fun h => s_peek htn (by omega) ?_⟩
    · rwa [if_neg (by omega)] at hk
    · simp (disch := omega) only [tHS hb]
      refine ⟨fun q => ?_, fun q => ih (a + 1) (by omega) (by omega) ?_⟩
      · rwa [if_neg q] at hk
      · rwa [if_pos q] at hk
theorem s_skipSpaces {N a : Nat} {c0 c2 c3 c4 : Int32} {c1 : Int64} {Q : Int32 → Prop} (hN : 1000 < N) (hb : ∀ j, b j < 128) (htn : tn ≤ 120) (ha : a < 500) (hq : Q (nI (sk b tn a))) : p_X1_skipSpaces N (nI a) c0 c1 c2 c3 c4 (nI tn) (tB b) Q := by
  unfold p_X1_skipSpaces
  exact s_skipSpaces_0 hb htn N a (by omega) ha hq
theorem s_skips1 {N a c : Nat} {c0 c2 c3 c4 : Int32} {c1 : Int64} {Q : Int32 → Int32 → Prop} (hb : ∀ j, b j < 128) (htn : tn ≤ 120) (ha : a < 500) (hc : c < 128) (h1 : a < tn ∧ b a = c → Q (nI 1) (nI (a + 1))) (h0 : ¬ (a < tn ∧ b a = c) → Q (nI 0) (nI a)) : p_X1_skips N (nI a) c0 c1 c2 c3 c4 (nI tn) (tB b) (nI c) Q := by
  unfold p_X1_skips
  simp (disch := omega) only [zl, nS]
  refine s_peek htn (by omega) ?_
  simp (disch := omega) only [tHS hb]
  exact ⟨h1, h0⟩
theorem s_atEnd {N a : Nat} {c0 c2 c3 c4 : Int32} {c1 : Int64} {Q : Int32 → Prop} (htn : tn ≤ 120) (ha : a < 500) (h1 : ¬ a < tn → Q (nI 1)) (h0 : a < tn → Q (nI 0)) : p_X1_atEnd N (nI a) c0 c1 c2 c3 c4 (nI tn) Q := by
  unfold p_X1_atEnd
  simp (disch := omega) only [zl, nS]
  exact ⟨h0, h1⟩
/-- digits: at most r of them, behind the number x -/
def dg (b : Nat → Nat) (tn : Nat) : Nat → Nat → Nat → Nat × Nat
  | 0, x, a => (x, a)
  | r + 1, x, a => if a < tn ∧ 48 ≤ b a ∧ b a ≤ 57 then dg b tn r (10 * x + (b a - 48)) (a + 1) else (x, a)
theorem dg_bd : ∀ (r x a : Nat), a ≤ (dg b tn r x a).2 ∧ (dg b tn r x a).2 ≤ a + r ∧ ((dg b tn r x a).2 ≤ tn ∨ (dg b tn r x a).2 = a) ∧ ((dg b tn r x a).1 + 1) ≤ (x + 1) * 10 ^ r
  | 0, x, a => ⟨Nat.le_refl _, Nat.le_refl _, Or.inr rfl, by show x + 1 ≤ (x + 1) * 1; omega⟩
  | r + 1, x, a => by
    unfold dg
    have hp : 0 < 10 ^ r := Nat.pow_pos (by decide)
    have e : (x + 1) * 10 ^ (r + 1) = (10 * x + 10) * 10 ^ r := by rw [Nat.pow_succ, Nat.mul_comm (10 ^ r) 10, ← Nat.mul_assoc]; congr 1; omega
    by_cases q : a < tn ∧ 48 ≤ b a ∧ b a ≤ 57
    · rw [if_pos q]
      have h := dg_bd r (10 * x + (b a - 48)) (a + 1)
      refine ⟨by omega, by omega, by omega, Nat.le_trans h.2.2.2 ?_⟩
      rw [e]
      exact Nat.mul_le_mul_right _ (by omega)
    · rw [if_neg q]
      refine ⟨Nat.le_refl _, by show a ≤ _; omega, Or.inr rfl, ?_⟩
      rw [e]
      exact Nat.le_trans (show x + 1 ≤ (10 * x + 10) * 1 by omega) (Nat.mul_le_mul_left _ hp)
theorem s_isDigit {N : Nat} {x : Int32} {Q : Int32 → Prop} (hq : Q (bI (48 ≤ x ∧ x ≤ 57))) : p_X1_isDigit N x Q := by
  unfold p_X1_isDigit
  have e1 : (x < 48) = ¬ (48 ≤ x) := propext (by rw [Int32.lt_iff_toInt_lt, Int32.le_iff_toInt_le]; omega)
  have e2 : (57 < x) = ¬ (x ≤ 57) := propext (by rw [Int32.lt_iff_toInt_lt, Int32.le_iff_toInt_le]; omega)
  simp only [e1, e2, Decidable.not_not]
  unfold bI at hq
  refine ⟨fun h => ?_, fun h => ⟨fun h2 => ?_, fun h2 => ?_⟩⟩
  · rwa [if_neg (fun q => h q.1)] at hq
  · rwa [if_neg (fun q => h2 q.2)] at hq
  · rwa [if_pos ⟨h, h2⟩] at hq
theorem s_readNumber_12 {N : Nat} {x2 c1 c2 c3 : Int32} {c0 : Int64} {mx : Nat} {K : Int32 → Int32 → Int32 → Prop} (hb : ∀ j, b j < 128) (htn : tn ≤ 120) (hmx : mx ≤ 6) : ∀ (n r d x a : Nat), d + r = mx → r < n → a < 500 → (x + 1) * 10 ^ r ≤ 1000000 → (∀ z, z ≤ 6 → K (nI z) (nI (dg b tn r x a).2) (nI (dg b tn r x a).1)) → p_X1_readNumber_12 N (nI mx) x2 c0 c1 c2 c3 (nI tn) (tB b) K n (nI d) (nI a) (nI x) := by
  intro n
  induction n with
  | zero => intro r d x a h1 h2; omega
  | succ n ih =>
    intro r d x a hd hn ha hx hk
    unfold p_X1_readNumber_12
    have hx2 : x < 1000000 := by
      have hp : 0 < 10 ^ r := Nat.pow_pos (by decide)
      have := Nat.mul_le_mul_left (x + 1) hp
      omega
    simp (disch := omega) only [zl, nS]
    refine ⟨fun h => ?_, fun h => s_peek htn (by omega) (s_isDigit ?_)⟩
    · have : r = 0 := by omega
      subst this
      exact hk d (by omega)
    · obtain ⟨r, rfl⟩ : ∃ r', r = r' + 1 := ⟨r - 1, by omega⟩
      unfold dg at hk
      simp (disch := omega) only [zl, tHS hb, bI_0]
      refine ⟨fun q => ?_, fun q => s_peek htn (by omega) ?_⟩
      · rw [if_neg (fun z => q ⟨⟨z.1, z.2.1⟩, by omega⟩)] at hk
        exact hk d (by omega)
      · have q2 : a < tn ∧ 48 ≤ b a ∧ b a ≤ 57 := by omega
        rw [if_pos q2] at hk
        have hbb := hb a
        rw [tH_in q2.1]
        simp (disch := omega) only [nS]
        rw [show 10 * x + b a - 48 = 10 * x + (b a - 48) by omega]
        refine ih r (d + 1) _ (a + 1) (by omega) (by omega) (by omega) ?_ hk
        refine Nat.le_trans (Nat.mul_le_mul_right (10 ^ r) (show 10 * x + (b a - 48) + 1 ≤ (x + 1) * 10 by omega)) ?_
        rw [Nat.mul_assoc, Nat.mul_comm 10 (10 ^ r), ← Nat.pow_succ]
        exact hx
theorem s_readNumber {N a mx : Nat} {c1 c2 c3 c4 : Int32} {c0 : Int64} {Q : Int32 → Int32 → Int32 → Prop} (hN : 1000 < N) (hb : ∀ j, b j < 128) (htn : tn ≤ 120) (hmx : mx ≤ 6) (ha : a < 400) (h1 : a < (dg b tn mx 0 a).2 → Q (nI 1) (nI (dg b tn mx 0 a).2) (nI (dg b tn mx 0 a).1)) (h0 : ¬ a < (dg b tn mx 0 a).2 → Q (nI 0) (nI (dg b tn mx 0 a).2) (nI (dg b tn mx 0 a).1)) : p_X1_readNumber N (nI a) c4 c0 c1 c2 c3 (nI tn) (tB b) (nI mx) Q := by
  unfold p_X1_readNumber
  have hbd := dg_bd (b := b) (tn := tn) mx 0 a
  have hp : (0 + 1) * 10 ^ mx ≤ 1000000 := by
    rw [Nat.zero_add, Nat.one_mul]
    exact Nat.le_trans (Nat.pow_le_pow_right (by decide) hmx) (by decide : 10 ^ 6 ≤ 1000000)
  simp (disch := omega) only [zl]
  refine s_readNumber_12 hb htn hmx N mx 0 0 a (by omega) (by omega) (by omega) hp (fun z hz => ?_)
  simp (disch := omega) only [nS]
  exact ⟨fun h => h0 (by omega), fun h => h1 (by omega)⟩
end TX
/-! names: four letters, 8 bits each in the reference, 5 bits each in the class -/
theorem s_l : ∀ n, n < 32 → ((nI n &&& 31).toBitVec.smod 32).toNat = n := by decide +kernel
theorem fa_or (a b : Nat) : nI a ||| nI b = nI (a ||| b) := by
  apply Int32.toBitVec_inj.mp
  rw [Int32.toBitVec_or]
  show BitVec.ofNat 32 a ||| BitVec.ofNat 32 b = BitVec.ofNat 32 (a ||| b)
  exact BitVec.ofNat_or.symm
theorem or_sum {a k : Nat} (b : Nat) (h : a < 2 ^ k) : nI (b * 2 ^ k) ||| nI a = nI (b * 2 ^ k + a) := by rw [fa_or, Nat.mul_comm, Nat.two_pow_add_eq_or_of_lt h]
theorem sh_n {n k : Nat} (hk : k < 32) (h : n * 2 ^ k < 4294967296) : nI n <<< (nI k &&& nI 31) = nI (n * 2 ^ k) := pk_shlN (nI k &&& 31) k (s_l k hk) h
theorem sub_3 (f i : Nat) (h : i ≤ 3) : nI 3 - nI (f + i) + nI f = nI (3 - i) := by
  rw [← nI_add, show nI 3 = nI (3 - i) + nI i by rw [nI_add]; congr 1; omega]
  generalize nI (3 - i) = p
  generalize nI i = q
  generalize nI f = r
  apply Int32.toBitVec_inj.mp
  simp only [Int32.toBitVec_add, Int32.toBitVec_sub]
  bv_omega
/-- a name's four bytes, as five bits each -/
def d5 (y : Nat) : Nat := y - 96
def c5 (x : Nat) : Nat := ((d5 (x / 16777216) * 32 + d5 (x / 65536 % 256)) * 32 + d5 (x / 256 % 256)) * 32 + d5 (x % 256)
/-- a name or nothing: each byte is 0 or a letter, no letter behind a 0 -/
def okN (x : Nat) : Prop := (x / 16777216 = 0 ∨ (97 ≤ x / 16777216 ∧ x / 16777216 ≤ 122)) ∧ (x / 65536 % 256 = 0 ∨ (97 ≤ x / 65536 % 256 ∧ x / 65536 % 256 ≤ 122)) ∧ (x / 256 % 256 = 0 ∨ (97 ≤ x / 256 % 256 ∧ x / 256 % 256 ≤ 122)) ∧ (x % 256 = 0 ∨ (97 ≤ x % 256 ∧ x % 256 ≤ 122)) ∧ (x / 16777216 = 0 → x = 0)
theorem okN_0 : okN 0 := by refine ⟨Or.inl rfl, Or.inl rfl, Or.inl rfl, Or.inl rfl, fun _ => rfl⟩
theorem okN_lt {x : Nat} (h : okN x) : x < 2063597568 := by
  have h1 := h.1
  omega
theorem d5_b {y : Nat} (h : y = 0 ∨ (97 ≤ y ∧ y ≤ 122)) : d5 y < 32 ∧ (d5 y = 0 ↔ y = 0) := by unfold d5; omega
theorem d5_c {y z : Nat} (h : y = 0 ∨ (97 ≤ y ∧ y ≤ 122)) (h2 : z = 0 ∨ (97 ≤ z ∧ z ≤ 122)) : (d5 y < d5 z ↔ y < z) ∧ (d5 y = d5 z ↔ y = z) := by unfold d5; omega
theorem lexs {A B D E a b d e : Nat} (h1 : (D < E ↔ A < B) ∧ (D = E ↔ A = B)) (h3 : (d < e ↔ a < b) ∧ (d = e ↔ a = b)) (b1 : d < 32) (b2 : e < 32) (b3 : a < 256) (b4 : b < 256) : (D * 32 + d < E * 32 + e ↔ A * 256 + a < B * 256 + b) ∧ (D * 32 + d = E * 32 + e ↔ A * 256 + a = B * 256 + b) := by
  rcases Nat.lt_trichotomy A B with q | q | q
  · have p := h1.1.mpr q
    clear h1 h3
    omega
  · have p := h1.2.mpr q
    subst q
    subst p
    rcases Nat.lt_trichotomy a b with r | r | r
    · have s := h3.1.mpr r
      clear h1 h3
      omega
    · have s := h3.2.mpr r
      clear h1 h3
      omega
    · have s : ¬ d < e := fun z => by have := h3.1.mp z; omega
      have s2 : ¬ d = e := fun z => by have := h3.2.mp z; omega
      clear h1 h3
      omega
  · have s : ¬ D < E := fun z => by have := h1.1.mp z; omega
    have s2 : ¬ D = E := fun z => by have := h1.2.mp z; omega
    clear h1 h3
    omega
theorem dig4 {p q r s x : Nat} (hx : x = ((p * 256 + q) * 256 + r) * 256 + s) (hq : q < 256) (hr : r < 256) (hs : s < 256) : x / 16777216 = p ∧ x / 65536 % 256 = q ∧ x / 256 % 256 = r ∧ x % 256 = s := by omega
theorem digs (x : Nat) : x = ((x / 16777216 * 256 + x / 65536 % 256) * 256 + x / 256 % 256) * 256 + x % 256 := by omega
theorem c5_cmp {x y : Nat} (hx : okN x) (hy : okN y) : (c5 x < c5 y ↔ x < y) ∧ (c5 x = c5 y ↔ x = y) := by
  have ex := digs x
  have ey := digs y
  obtain ⟨x1, x2, x3, x4, x5⟩ := hx
  obtain ⟨y1, y2, y3, y4, y5⟩ := hy
  have l1 := lexs (d5_c x1 y1) (d5_c x2 y2) (d5_b x2).1 (d5_b y2).1 (Nat.mod_lt _ (by decide)) (Nat.mod_lt _ (by decide))
  have l2 := lexs l1 (d5_c x3 y3) (d5_b x3).1 (d5_b y3).1 (Nat.mod_lt _ (by decide)) (Nat.mod_lt _ (by decide))
  have l3 := lexs l2 (d5_c x4 y4) (d5_b x4).1 (d5_b y4).1 (Nat.mod_lt _ (by decide)) (Nat.mod_lt _ (by decide))
  rw [← ex, ← ey] at l3
  exact l3
theorem c5_lt {x : Nat} (h : okN x) : c5 x < 1048576 := by
  obtain ⟨x1, x2, x3, x4, x5⟩ := h
  have b1 := (d5_b x1).1
  have b2 := (d5_b x2).1
  have b3 := (d5_b x3).1
  have b4 := (d5_b x4).1
  unfold c5
  generalize d5 (x / 16777216) = u1 at *
  generalize d5 (x / 65536 % 256) = u2 at *
  generalize d5 (x / 256 % 256) = u3 at *
  generalize d5 (x % 256) = u4 at *
  clear x1 x2 x3 x4 x5
  omega
theorem c5_0 : c5 0 = 0 := rfl
theorem c5_mono {x y : Nat} (hx : okN x) (hy : okN y) : c5 x < c5 y ↔ x < y := (c5_cmp hx hy).1
theorem c5_inj {x y : Nat} (hx : okN x) (hy : okN y) : c5 x = c5 y ↔ x = y := (c5_cmp hx hy).2
theorem c5_z {x : Nat} (hx : okN x) : c5 x = 0 ↔ x = 0 := c5_inj hx okN_0
/-- four digits: the name's code, and its five bits each -/
theorem c5_mk {p q r s X : Nat} (hX : X = ((p * 256 + q) * 256 + r) * 256 + s) (hp : p = 0 ∨ (97 ≤ p ∧ p ≤ 122)) (hq : q = 0 ∨ (97 ≤ q ∧ q ≤ 122)) (hr : r = 0 ∨ (97 ≤ r ∧ r ≤ 122)) (hs : s = 0 ∨ (97 ≤ s ∧ s ≤ 122)) (h0 : p = 0 → X = 0) : c5 X = ((d5 p * 32 + d5 q) * 32 + d5 r) * 32 + d5 s ∧ okN X ∧ (X = 0 ↔ p = 0) := by
  obtain ⟨e1, e2, e3, e4⟩ := dig4 hX (by omega) (by omega) (by omega)
  unfold c5 okN
  rw [e1, e2, e3, e4]
  exact ⟨rfl, ⟨hp, hq, hr, hs, h0⟩, fun z => by rw [z] at e1; omega, h0⟩
theorem c5_id : c5 1768161280 = 299008 := by decide
section NM
variable {b : Nat → Nat} {tn : Nat}
def nm5 (b : Nat → Nat) (tn : Nat) : Nat → Nat → Nat → Nat × Nat
  | 0, x, a => (x, a)
  | r + 1, x, a => if a < tn ∧ 97 ≤ b a ∧ b a ≤ 122 then nm5 b tn r (x * 32 + (b a - 96)) (a + 1) else nm5 b tn r (x * 32) a
def nm8 (b : Nat → Nat) (tn : Nat) : Nat → Nat → Nat → Nat × Nat
  | 0, x, a => (x, a)
  | r + 1, x, a => if a < tn ∧ 97 ≤ b a ∧ b a ≤ 122 then nm8 b tn r (x + b a * 256 ^ r) (a + 1) else (x, a)
/-- the name at a: its code, and where it ends -/
def nmV (b : Nat → Nat) (tn a : Nat) : Nat := (nm8 b tn 4 0 a).1
def nmA (b : Nat → Nat) (tn a : Nat) : Nat := (nm8 b tn 4 0 a).2
theorem nm_fin {X Y A5 A8 a n p q r s : Nat} (hX : X = ((p * 256 + q) * 256 + r) * 256 + s) (hY : Y = ((d5 p * 32 + d5 q) * 32 + d5 r) * 32 + d5 s) (h5 : A5 = n) (h8 : A8 = n) (hn : a < n) (hn4 : n ≤ a + 4) (hnt : n ≤ tn) (hl : a < tn ∧ 97 ≤ p ∧ p ≤ 122) (hpb : p = b a) (hq : q = 0 ∨ (97 ≤ q ∧ q ≤ 122)) (hr : r = 0 ∨ (97 ≤ r ∧ r ≤ 122)) (hs : s = 0 ∨ (97 ≤ s ∧ s ≤ 122)) : A5 = A8 ∧ Y = c5 X ∧ okN X ∧ a ≤ A8 ∧ A8 ≤ a + 4 ∧ (A8 ≤ tn ∨ A8 = a) ∧ (X = 0 ↔ A8 = a) ∧ (a < A8 ↔ (a < tn ∧ 97 ≤ b a ∧ b a ≤ 122)) := by
  obtain ⟨c1, c2, c3⟩ := c5_mk hX (Or.inr hl.2) hq hr hs (fun z => by omega)
  subst h5
  subst h8
  refine ⟨rfl, by rw [hY, c1], c2, Nat.le_of_lt hn, hn4, Or.inl hnt, ⟨fun z => ?_, fun z => ?_⟩, ⟨fun _ => ?_, fun _ => hn⟩⟩
  · have := c3.mp z; omega
  · omega
  · rw [← hpb]; exact hl
theorem nm_all (a : Nat) : (nm5 b tn 4 0 a).2 = nmA b tn a ∧ (nm5 b tn 4 0 a).1 = c5 (nmV b tn a) ∧ okN (nmV b tn a) ∧ a ≤ nmA b tn a ∧ nmA b tn a ≤ a + 4 ∧ (nmA b tn a ≤ tn ∨ nmA b tn a = a) ∧ (nmV b tn a = 0 ↔ nmA b tn a = a) ∧ (a < nmA b tn a ↔ (a < tn ∧ 97 ≤ b a ∧ b a ≤ 122)) := by
  unfold nmV nmA
  have dz : d5 0 = 0 := rfl
  by_cases h0 : a < tn ∧ 97 ≤ b a ∧ b a ≤ 122
  · by_cases h1 : a + 1 < tn ∧ 97 ≤ b (a + 1) ∧ b (a + 1) ≤ 122
    · by_cases h2 : a + 1 + 1 < tn ∧ 97 ≤ b (a + 1 + 1) ∧ b (a + 1 + 1) ≤ 122
      · by_cases h3 : a + 1 + 1 + 1 < tn ∧ 97 ≤ b (a + 1 + 1 + 1) ∧ b (a + 1 + 1 + 1) ≤ 122
        · refine nm_fin (p := b a) (q := b (a + 1)) (r := b (a + 1 + 1)) (s := b (a + 1 + 1 + 1)) (n := a + 1 + 1 + 1 + 1) ?_ ?_ ?_ ?_ (by omega) (by omega) (by omega) h0 rfl (Or.inr h1.2) (Or.inr h2.2) (Or.inr h3.2)
          · unfold nm8; rw [if_pos h0]; unfold nm8; rw [if_pos h1]; unfold nm8; rw [if_pos h2]; unfold nm8; rw [if_pos h3]; unfold nm8
            simp only [p256]; clear h0 h1 h2 h3; omega
          · unfold nm5; rw [if_pos h0]; unfold nm5; rw [if_pos h1]; unfold nm5; rw [if_pos h2]; unfold nm5; rw [if_pos h3]; unfold nm5
            unfold d5; rw [Nat.zero_mul, Nat.zero_add]
          · unfold nm5; rw [if_pos h0]; unfold nm5; rw [if_pos h1]; unfold nm5; rw [if_pos h2]; unfold nm5; rw [if_pos h3]; unfold nm5; rfl
          · unfold nm8; rw [if_pos h0]; unfold nm8; rw [if_pos h1]; unfold nm8; rw [if_pos h2]; unfold nm8; rw [if_pos h3]; unfold nm8; rfl
        · refine nm_fin (p := b a) (q := b (a + 1)) (r := b (a + 1 + 1)) (s := 0) (n := a + 1 + 1 + 1) ?_ ?_ ?_ ?_ (by omega) (by omega) (by omega) h0 rfl (Or.inr h1.2) (Or.inr h2.2) (Or.inl rfl)
          · unfold nm8; rw [if_pos h0]; unfold nm8; rw [if_pos h1]; unfold nm8; rw [if_pos h2]; unfold nm8; rw [if_neg h3]
            simp only [p256]; clear h0 h1 h2 h3; omega
          · unfold nm5; rw [if_pos h0]; unfold nm5; rw [if_pos h1]; unfold nm5; rw [if_pos h2]; unfold nm5; rw [if_neg h3]; unfold nm5
            simp only [dz]; unfold d5; simp only [Nat.zero_mul, Nat.zero_add, Nat.add_zero]
          · unfold nm5; rw [if_pos h0]; unfold nm5; rw [if_pos h1]; unfold nm5; rw [if_pos h2]; unfold nm5; rw [if_neg h3]; unfold nm5; rfl
          · unfold nm8; rw [if_pos h0]; unfold nm8; rw [if_pos h1]; unfold nm8; rw [if_pos h2]; unfold nm8; rw [if_neg h3]
      · refine nm_fin (p := b a) (q := b (a + 1)) (r := 0) (s := 0) (n := a + 1 + 1) ?_ ?_ ?_ ?_ (by omega) (by omega) (by omega) h0 rfl (Or.inr h1.2) (Or.inl rfl) (Or.inl rfl)
        · unfold nm8; rw [if_pos h0]; unfold nm8; rw [if_pos h1]; unfold nm8; rw [if_neg h2]
          simp only [p256]; clear h0 h1 h2; omega
        · unfold nm5; rw [if_pos h0]; unfold nm5; rw [if_pos h1]; unfold nm5; rw [if_neg h2]; unfold nm5; rw [if_neg h2]; unfold nm5
          simp only [dz]; unfold d5; simp only [Nat.zero_mul, Nat.zero_add, Nat.add_zero]
        · unfold nm5; rw [if_pos h0]; unfold nm5; rw [if_pos h1]; unfold nm5; rw [if_neg h2]; unfold nm5; rw [if_neg h2]; unfold nm5; rfl
        · unfold nm8; rw [if_pos h0]; unfold nm8; rw [if_pos h1]; unfold nm8; rw [if_neg h2]
    · refine nm_fin (p := b a) (q := 0) (r := 0) (s := 0) (n := a + 1) ?_ ?_ ?_ ?_ (by omega) (by omega) (by omega) h0 rfl (Or.inl rfl) (Or.inl rfl) (Or.inl rfl)
      · unfold nm8; rw [if_pos h0]; unfold nm8; rw [if_neg h1]
        simp only [p256]; clear h0 h1; omega
      · unfold nm5; rw [if_pos h0]; unfold nm5; rw [if_neg h1]; unfold nm5; rw [if_neg h1]; unfold nm5; rw [if_neg h1]; unfold nm5
        simp only [dz]; unfold d5; simp only [Nat.zero_mul, Nat.zero_add, Nat.add_zero]
      · unfold nm5; rw [if_pos h0]; unfold nm5; rw [if_neg h1]; unfold nm5; rw [if_neg h1]; unfold nm5; rw [if_neg h1]; unfold nm5; rfl
      · unfold nm8; rw [if_pos h0]; unfold nm8; rw [if_neg h1]
  · have e5 : nm5 b tn 4 0 a = (0, a) := by
      unfold nm5; rw [if_neg h0]; unfold nm5; rw [if_neg h0]; unfold nm5; rw [if_neg h0]; unfold nm5; rw [if_neg h0]; unfold nm5; rfl
    have e8 : nm8 b tn 4 0 a = (0, a) := by unfold nm8; rw [if_neg h0]
    rw [e5, e8]
    exact ⟨rfl, c5_0.symm, okN_0, Nat.le_refl _, Nat.le_add_right _ _, Or.inr rfl, ⟨fun _ => rfl, fun _ => rfl⟩, ⟨fun z => absurd z (Nat.lt_irrefl _), fun z => absurd z h0⟩⟩
theorem s_readName_5 {N : Nat} {x1 c0 c2 c3 c4 : Int32} {c1 : Int64} {K : Int64 → Int32 → Int32 → Prop} (hb : ∀ j, b j < 128) (htn : tn ≤ 120) : ∀ (n r d x a : Nat), d + r = 4 → r < n → a < 400 → (∀ z, K (lN (nm5 b tn r x a).1) z (nI (nm5 b tn r x a).2)) → p_X1_readName_5 N x1 c0 c1 c2 c3 c4 (nI tn) (tB b) K n (lN x) (nI d) (nI a) := by
  intro n
  induction n with
  | zero => intro r d x a h1 h2; omega
  | succ n ih =>
    intro r d x a hd hn ha hk
    unfold p_X1_readName_5
    simp (disch := omega) only [zl, nS, lS]
    refine ⟨fun h => ?_, fun h => s_peek htn (by omega) ?_⟩
    · have : r = 0 := by omega
      subst this
      exact hk _
    · obtain ⟨r, rfl⟩ : ∃ r', r = r' + 1 := ⟨r - 1, by omega⟩
      unfold nm5 at hk
      simp (disch := omega) only [tHS hb]
      refine ⟨fun q => ?_, fun q => ⟨fun q2 => ?_, fun q2 => ?_⟩⟩
      · rw [if_neg (fun z => q ⟨z.1, z.2.1⟩)] at hk
        exact ih r (d + 1) _ a (by omega) (by omega) ha hk
      · rw [if_neg (fun z => by omega)] at hk
        exact ih r (d + 1) _ a (by omega) (by omega) ha hk
      · have q3 : a < tn ∧ 97 ≤ b a ∧ b a ≤ 122 := by omega
        rw [if_pos q3] at hk
        have hbb := hb a
        rw [tH_in q3.1]
        simp (disch := omega) only [nS, lS]
        rw [show b a - 97 + 1 = b a - 96 by omega]
        exact ih r (d + 1) _ (a + 1) (by omega) (by omega) (by omega) hk
def ml (l : Nat) : Nat := if l = 0 then 2 else if l = 1 then 3 else 1
theorem gmi_n {l : Nat} (h : l < 3) : gmi l = nI (ml l) := by
  rcases (show l = 0 ∨ l = 1 ∨ l = 2 by omega) with rfl | rfl | rfl <;> rfl
theorem s_readName1 {N a l k kn : Nat} {c0 c3 c4 : Int32} {Q : Int32 → Int32 → Int64 → Int32 → Prop} (hN : 1000 < N) (hb : ∀ j, b j < 128) (htn : tn ≤ 120) (ha : a < 400) (hl : l < 3) (hkn : kn < ml l)
    (h1 : (a < tn ∧ 97 ≤ b a ∧ b a ≤ 122) → Q (nI 1) (nI (nmA b tn a)) (lN (k + c5 (nmV b tn a) * 2 ^ (20 * (ml l - (kn + 1))))) (nI (kn + 1))) (h0 : ¬ (a < tn ∧ 97 ≤ b a ∧ b a ≤ 122) → Q (nI 0) (nI a) (lN k) (nI kn)) : p_X1_readName N (nI a) c0 (lN k) (nI kn) c3 c4 (nI tn) (tB b) (nI l) Q := by
  unfold p_X1_readName
  obtain ⟨e1, e2, e3, e4, e5, e6, e7, e8⟩ := nm_all (b := b) (tn := tn) a
  have hml : ml l ≤ 3 := by unfold ml; split <;> (try split) <;> omega
  simp (disch := omega) only [zl, zL]
  refine s_readName_5 hb htn N 4 0 0 a (by omega) (by omega) (by omega) (fun z => ?_)
  rw [e1, e2]
  have h5 := c5_lt e3
  simp (disch := omega) only [cmp0, nS, lS, gmi_n]
  refine ⟨fun h => ⟨by omega, ?_⟩, fun h => ?_⟩
  · exact h1 (e8.mp (by rcases Nat.lt_or_ge a (nmA b tn a) with q | q; · exact q
                        · exact absurd ((c5_z e3).mpr (e7.mpr (by omega))) h))
  · have h9 := e7.mp ((c5_z e3).mp h)
    rw [h9]
    exact h0 (fun z => by have := e8.mpr z; omega)
theorem nmA_le {a : Nat} (h : tL b tn a) : nmA b tn a ≤ tn ∧ a < nmA b tn a := by
  obtain ⟨e1, e2, e3, e4, e5, e6, e7, e8⟩ := nm_all (b := b) (tn := tn) a
  have := e8.mpr h
  omega
theorem nmV_ok (a : Nat) : okN (nmV b tn a) := (nm_all a).2.2.1
theorem nmV_nz {a : Nat} (h : tL b tn a) : nmV b tn a ≠ 0 := by
  obtain ⟨e1, e2, e3, e4, e5, e6, e7, e8⟩ := nm_all (b := b) (tn := tn) a
  have := e8.mpr h
  omega
end NM
/-! ranges and a variant's three names: class and reference read alike -/
def k5 (l x0 x1 x2 : Nat) : Nat := c5 x0 * 2 ^ (20 * (ml l - 1)) + c5 x1 * 2 ^ (20 * (ml l - 2)) + c5 x2 * 2 ^ (20 * (ml l - 3))
def cn (x0 x1 x2 : Nat) : Nat := if x0 = 0 then 0 else if x1 = 0 then 1 else if x2 = 0 then 2 else 3
theorem k5_0 (l : Nat) : k5 l 0 0 0 = 0 := by unfold k5; simp only [c5_0, Nat.zero_mul]
theorem k5_1 (l x : Nat) : k5 l x 0 0 = 0 + c5 x * 2 ^ (20 * (ml l - (0 + 1))) := by unfold k5; simp only [c5_0, Nat.zero_mul, Nat.add_zero, Nat.zero_add]
theorem k5_2 (l x y : Nat) : k5 l x y 0 = 0 + c5 x * 2 ^ (20 * (ml l - (0 + 1))) + c5 y * 2 ^ (20 * (ml l - (0 + 1 + 1))) := by unfold k5; simp only [c5_0, Nat.zero_mul, Nat.add_zero, Nat.zero_add]
theorem k5_3 (l x y z : Nat) : k5 l x y z = 0 + c5 x * 2 ^ (20 * (ml l - (0 + 1))) + c5 y * 2 ^ (20 * (ml l - (0 + 1 + 1))) + c5 z * 2 ^ (20 * (ml l - (0 + 1 + 1 + 1))) := by unfold k5; simp only [Nat.zero_add]
theorem cn_0 : cn 0 0 0 = 0 := rfl
theorem cn_1 {x : Nat} (h : x ≠ 0) : cn x 0 0 = 0 + 1 := by unfold cn; rw [if_neg h, if_pos rfl]
theorem cn_2 {x y : Nat} (h : x ≠ 0) (h2 : y ≠ 0) : cn x y 0 = 0 + 1 + 1 := by unfold cn; rw [if_neg h, if_neg h2, if_pos rfl]
theorem cn_3 {x y z : Nat} (h : x ≠ 0) (h2 : y ≠ 0) (h3 : z ≠ 0) : cn x y z = 0 + 1 + 1 + 1 := by unfold cn; rw [if_neg h, if_neg h2, if_neg h3]
def RD (rd : Nat → Int32) (i x0 x1 x2 : Nat) (rd' : Nat → Int32) : Prop := ∀ j, rd' j = if j = i then nI x0 else if j = i + 1 then nI x1 else if j = i + 2 then nI x2 else rd j
def Z3 (rd : Nat → Int32) (i : Nat) : Prop := rd i = nI 0 ∧ rd (i + 1) = nI 0 ∧ rd (i + 2) = nI 0
theorem RD0 {rd : Nat → Int32} {i : Nat} (h : Z3 rd i) : RD rd i 0 0 0 rd := by
  intro j
  obtain ⟨h1, h2, h3⟩ := h
  by_cases q1 : j = i
  · rw [if_pos q1, q1, h1]
  · by_cases q2 : j = i + 1
    · rw [if_neg q1, if_pos q2, q2, h2]
    · by_cases q3 : j = i + 2
      · rw [if_neg q1, if_neg q2, if_pos q3, q3, h3]
      · rw [if_neg q1, if_neg q2, if_neg q3]
theorem RDs {rd rd' : Nat → Int32} {i x0 x1 x2 : Nat} (y : Nat) (h : RD rd i x0 x1 x2 rd') : RD rd i y x1 x2 (upd rd' i (nI y)) ∧ RD rd i x0 y x2 (upd rd' (i + 1) (nI y)) ∧ RD rd i x0 x1 y (upd rd' (i + 2) (nI y)) := by
  refine ⟨fun j => ?_, fun j => ?_, fun j => ?_⟩
  all_goals rw [upd_at, h j]
  · by_cases q : j = i
    · rw [if_pos q, if_pos q]
    · simp only [if_neg q]
  · by_cases q : j = i + 1
    · rw [if_pos q, if_neg (show j ≠ i by omega), if_pos q]
    · simp only [if_neg q]
  · by_cases q : j = i + 2
    · rw [if_pos q, if_neg (show j ≠ i by omega), if_neg (show j ≠ i + 1 by omega), if_pos q]
    · simp only [if_neg q]
theorem RD1 {rd : Nat → Int32} {i : Nat} (h : Z3 rd i) (x : Nat) : RD rd i x 0 0 (upd rd i (nI x)) := (RDs x (RD0 h)).1
theorem RD2 {rd : Nat → Int32} {i : Nat} (h : Z3 rd i) (x y : Nat) : RD rd i x y 0 (upd (upd rd i (nI x)) (i + 1) (nI y)) := (RDs y (RD1 h x)).2.1
theorem RD3 {rd : Nat → Int32} {i : Nat} (h : Z3 rd i) (x y z : Nat) : RD rd i x y z (upd (upd (upd rd i (nI x)) (i + 1) (nI y)) (i + 2) (nI z)) := (RDs z (RD2 h x y)).2.2
section RG
variable {b : Nat → Nat} {tn : Nat}
/-- a language from a on: whether it is one, behind it (or where it fails), its names -/
def rgL (b : Nat → Nat) (tn a : Nat) : Nat × Nat × Nat × Nat × Nat :=
  if tL b tn a then
    if tC b tn (nmA b tn a) 45 then
      if tL b tn (nmA b tn a + 1) then
        if tC b tn (nmA b tn (nmA b tn a + 1)) 45 then
          if tL b tn (nmA b tn (nmA b tn a + 1) + 1) then (1, nmA b tn (nmA b tn (nmA b tn a + 1) + 1), nmV b tn a, nmV b tn (nmA b tn a + 1), nmV b tn (nmA b tn (nmA b tn a + 1) + 1))
          else (0, nmA b tn (nmA b tn a + 1) + 1, 0, 0, 0)
        else (1, nmA b tn (nmA b tn a + 1), nmV b tn a, nmV b tn (nmA b tn a + 1), 0)
      else (0, nmA b tn a + 1, 0, 0, 0)
    else (1, nmA b tn a, nmV b tn a, 0, 0)
  else (0, a, 0, 0, 0)
def vrT (b : Nat → Nat) (tn a : Nat) : Nat × Nat × Nat × Nat × Nat :=
  if tL b tn a then
    if tC b tn (nmA b tn a) 47 then
      if tL b tn (nmA b tn a + 1) then (1, nmA b tn (nmA b tn a + 1), nmV b tn a, nmV b tn (nmA b tn a + 1), 0)
      else (0, nmA b tn a + 1, 0, 0, 0)
    else (0, nmA b tn a, 0, 0, 0)
  else (0, a, 0, 0, 0)
def rgT (b : Nat → Nat) (tn a : Nat) : Nat × Nat × Nat × Nat × Nat :=
  if tC b tn a 42 then
    if tC b tn (a + 1) 47 then
      if tC b tn (a + 1 + 1) 42 then (1, a + 1 + 1 + 1, 0, 0, 0) else (0, a + 1 + 1, 0, 0, 0)
    else (0, a + 1, 0, 0, 0)
  else if tL b tn a then
    if tC b tn (nmA b tn a) 47 then
      if tC b tn (nmA b tn a + 1) 42 then (1, nmA b tn a + 1 + 1, nmV b tn a, 0, 0)
      else if tL b tn (nmA b tn a + 1) then (1, nmA b tn (nmA b tn a + 1), nmV b tn a, nmV b tn (nmA b tn a + 1), 0)
      else (0, nmA b tn a + 1, 0, 0, 0)
    else (0, nmA b tn a, 0, 0, 0)
  else (0, a, 0, 0, 0)
def vrC (b : Nat → Nat) (tn a : Nat) : Nat × Nat × Nat × Nat × Nat := if tL b tn a then (1, nmA b tn a, nmV b tn a, 0, 0) else (0, a, 0, 0, 0)
/-- the range of list l at a -/
def rg (b : Nat → Nat) (tn l a : Nat) : Nat × Nat × Nat × Nat × Nat := if l = 0 then rgT b tn a else if tC b tn a 42 then (1, a + 1, 0, 0, 0) else if l = 1 then rgL b tn a else vrC b tn a
/-- the things of list l in a variant -/
def vr (b : Nat → Nat) (tn l a : Nat) : Nat × Nat × Nat × Nat × Nat := if l = 0 then vrT b tn a else if l = 1 then rgL b tn a else vrC b tn a
def okR (l x0 x1 x2 : Nat) : Prop := okN x0 ∧ okN x1 ∧ okN x2 ∧ (x0 = 0 → x1 = 0) ∧ (x1 = 0 → x2 = 0) ∧ (l = 0 → x2 = 0) ∧ (l = 2 → x1 = 0)
def okV (l x0 x1 x2 : Nat) : Prop := okR l x0 x1 x2 ∧ x0 ≠ 0 ∧ (l = 0 → x1 ≠ 0)
/-- what a reading's outcome keeps -/
def outR (P : Nat → Nat → Nat → Prop) (tn a : Nat) (r : Nat × Nat × Nat × Nat × Nat) : Prop := (r.1 = 0 ∨ r.1 = 1) ∧ (r.2.1 ≤ tn ∨ r.2.1 = a) ∧ (r.1 = 1 → a < r.2.1 ∧ r.2.1 ≤ tn ∧ P r.2.2.1 r.2.2.2.1 r.2.2.2.2)
theorem rgL_out (a : Nat) : outR (okV 1) tn a (rgL b tn a) := by
  unfold rgL outR okV okR
  by_cases h0 : tL b tn a
  · have g0 := nmA_le h0; have z0 := nmV_nz h0; have o0 := nmV_ok (b := b) (tn := tn) a
    rw [if_pos h0]
    by_cases h1 : tC b tn (nmA b tn a) 45
    · rw [if_pos h1]
      by_cases h2 : tL b tn (nmA b tn a + 1)
      · have g2 := nmA_le h2; have z2 := nmV_nz h2; have o2 := nmV_ok (b := b) (tn := tn) (nmA b tn a + 1)
        rw [if_pos h2]
        by_cases h3 : tC b tn (nmA b tn (nmA b tn a + 1)) 45
        · rw [if_pos h3]
          by_cases h4 : tL b tn (nmA b tn (nmA b tn a + 1) + 1)
          · have g4 := nmA_le h4; have z4 := nmV_nz h4; have o4 := nmV_ok (b := b) (tn := tn) (nmA b tn (nmA b tn a + 1) + 1)
            rw [if_pos h4]
            exact ⟨Or.inr rfl, Or.inl g4.1, fun _ => ⟨by dsimp only; omega, g4.1, ⟨o0, o2, o4, fun z => absurd z z0, fun z => absurd z z2, fun z => absurd z (by first | decide | exact n01), fun z => absurd z (by first | decide | exact n01)⟩, z0, fun z => absurd z (by first | decide | exact n01)⟩⟩
          · rw [if_neg h4]
            exact ⟨Or.inl rfl, Or.inl h3.1, fun z => absurd z (by first | decide | exact n01)⟩
        · rw [if_neg h3]
          exact ⟨Or.inr rfl, Or.inl g2.1, fun _ => ⟨by dsimp only; omega, g2.1, ⟨o0, o2, okN_0, fun z => absurd z z0, fun z => rfl, fun z => absurd z (by first | decide | exact n01), fun z => absurd z (by first | decide | exact n01)⟩, z0, fun z => absurd z (by first | decide | exact n01)⟩⟩
      · rw [if_neg h2]
        exact ⟨Or.inl rfl, Or.inl h1.1, fun z => absurd z (by first | decide | exact n01)⟩
    · rw [if_neg h1]
      exact ⟨Or.inr rfl, Or.inl g0.1, fun _ => ⟨by dsimp only; omega, g0.1, ⟨o0, okN_0, okN_0, fun z => rfl, fun z => rfl, fun z => absurd z (by first | decide | exact n01), fun z => absurd z (by first | decide | exact n01)⟩, z0, fun z => absurd z (by first | decide | exact n01)⟩⟩
  · rw [if_neg h0]
    exact ⟨Or.inl rfl, Or.inr rfl, fun z => absurd z (by first | decide | exact n01)⟩
theorem vrT_out (a : Nat) : outR (okV 0) tn a (vrT b tn a) := by
  unfold vrT outR okV okR
  by_cases h0 : tL b tn a
  · have g0 := nmA_le h0; have z0 := nmV_nz h0; have o0 := nmV_ok (b := b) (tn := tn) a
    rw [if_pos h0]
    by_cases h1 : tC b tn (nmA b tn a) 47
    · rw [if_pos h1]
      by_cases h2 : tL b tn (nmA b tn a + 1)
      · have g2 := nmA_le h2; have z2 := nmV_nz h2; have o2 := nmV_ok (b := b) (tn := tn) (nmA b tn a + 1)
        rw [if_pos h2]
        exact ⟨Or.inr rfl, Or.inl g2.1, fun _ => ⟨by dsimp only; omega, g2.1, ⟨o0, o2, okN_0, fun z => absurd z z0, fun z => rfl, fun z => rfl, fun z => absurd z (by first | decide | exact n01)⟩, z0, fun _ => z2⟩⟩
      · rw [if_neg h2]
        exact ⟨Or.inl rfl, Or.inl h1.1, fun z => absurd z (by first | decide | exact n01)⟩
    · rw [if_neg h1]
      exact ⟨Or.inl rfl, Or.inl g0.1, fun z => absurd z (by first | decide | exact n01)⟩
  · rw [if_neg h0]
    exact ⟨Or.inl rfl, Or.inr rfl, fun z => absurd z (by first | decide | exact n01)⟩
theorem rgT_out (a : Nat) : outR (okR 0) tn a (rgT b tn a) := by
  unfold rgT outR okR
  by_cases hs : tC b tn a 42
  · rw [if_pos hs]
    by_cases h1 : tC b tn (a + 1) 47
    · rw [if_pos h1]
      by_cases h2 : tC b tn (a + 1 + 1) 42
      · rw [if_pos h2]
        exact ⟨Or.inr rfl, Or.inl h2.1, fun _ => ⟨by show a < a + 1 + 1 + 1; omega, h2.1, okN_0, okN_0, okN_0, fun z => rfl, fun z => rfl, fun z => rfl, fun z => rfl⟩⟩
      · rw [if_neg h2]
        exact ⟨Or.inl rfl, Or.inl h1.1, fun z => absurd z (by first | decide | exact n01)⟩
    · rw [if_neg h1]
      exact ⟨Or.inl rfl, Or.inl hs.1, fun z => absurd z (by first | decide | exact n01)⟩
  · rw [if_neg hs]
    by_cases h0 : tL b tn a
    · have g0 := nmA_le h0; have z0 := nmV_nz h0; have o0 := nmV_ok (b := b) (tn := tn) a
      rw [if_pos h0]
      by_cases h1 : tC b tn (nmA b tn a) 47
      · rw [if_pos h1]
        by_cases h3 : tC b tn (nmA b tn a + 1) 42
        · rw [if_pos h3]
          exact ⟨Or.inr rfl, Or.inl h3.1, fun _ => ⟨by show a < nmA b tn a + 1 + 1; omega, h3.1, o0, okN_0, okN_0, fun z => rfl, fun z => rfl, fun z => rfl, fun z => rfl⟩⟩
        · rw [if_neg h3]
          by_cases h2 : tL b tn (nmA b tn a + 1)
          · have g2 := nmA_le h2; have z2 := nmV_nz h2; have o2 := nmV_ok (b := b) (tn := tn) (nmA b tn a + 1)
            rw [if_pos h2]
            exact ⟨Or.inr rfl, Or.inl g2.1, fun _ => ⟨by dsimp only; omega, g2.1, o0, o2, okN_0, fun z => absurd z z0, fun z => rfl, fun z => rfl, fun z => absurd z (by first | decide | exact n01)⟩⟩
          · rw [if_neg h2]
            exact ⟨Or.inl rfl, Or.inl h1.1, fun z => absurd z (by first | decide | exact n01)⟩
      · rw [if_neg h1]
        exact ⟨Or.inl rfl, Or.inl g0.1, fun z => absurd z (by first | decide | exact n01)⟩
    · rw [if_neg h0]
      exact ⟨Or.inl rfl, Or.inr rfl, fun z => absurd z (by first | decide | exact n01)⟩
theorem vrC_out (a : Nat) : outR (okV 2) tn a (vrC b tn a) := by
  unfold vrC outR okV okR
  by_cases h0 : tL b tn a
  · have g0 := nmA_le h0; have z0 := nmV_nz h0; have o0 := nmV_ok (b := b) (tn := tn) a
    rw [if_pos h0]
    exact ⟨Or.inr rfl, Or.inl g0.1, fun _ => ⟨by dsimp only; omega, g0.1, ⟨o0, okN_0, okN_0, fun z => rfl, fun z => rfl, fun z => rfl, fun z => rfl⟩, z0, fun z => absurd z (by first | decide | exact n01)⟩⟩
  · rw [if_neg h0]
    exact ⟨Or.inl rfl, Or.inr rfl, fun z => absurd z (by first | decide | exact n01)⟩
theorem outR_mono {P P' : Nat → Nat → Nat → Prop} {a : Nat} {r : Nat × Nat × Nat × Nat × Nat} (h : outR P tn a r) (hp : ∀ x y z, P x y z → P' x y z) : outR P' tn a r := ⟨h.1, h.2.1, fun q => ⟨(h.2.2 q).1, (h.2.2 q).2.1, hp _ _ _ (h.2.2 q).2.2⟩⟩
theorem rg_out {l : Nat} (hl : l < 3) (a : Nat) : outR (okR l) tn a (rg b tn l a) := by
  unfold rg
  by_cases h0 : l = 0
  · subst h0; rw [if_pos rfl]; exact rgT_out a
  · rw [if_neg h0]
    by_cases hs : tC b tn a 42
    · rw [if_pos hs]
      exact ⟨Or.inr rfl, Or.inl hs.1, fun _ => ⟨by show a < a + 1; omega, hs.1, okN_0, okN_0, okN_0, fun z => rfl, fun z => rfl, fun z => rfl, fun z => rfl⟩⟩
    · rw [if_neg hs]
      by_cases h1 : l = 1
      · subst h1; rw [if_pos rfl]; exact outR_mono (rgL_out a) (fun _ _ _ h => h.1)
      · have : l = 2 := by omega
        subst this; rw [if_neg h1]; exact outR_mono (vrC_out a) (fun _ _ _ h => h.1)
theorem vr_out {l : Nat} (hl : l < 3) (a : Nat) : outR (okV l) tn a (vr b tn l a) := by
  unfold vr
  by_cases h0 : l = 0
  · subst h0; rw [if_pos rfl]; exact vrT_out a
  · rw [if_neg h0]
    by_cases h1 : l = 1
    · subst h1; rw [if_pos rfl]; exact rgL_out a
    · have : l = 2 := by omega
      subst this; rw [if_neg h1]; exact vrC_out a
end RG
/-! the readers of ranges: class and reference -/
theorem gm1 : gmi 1 = nI 3 := rfl
section RR
variable {b : Nat → Nat} {tn : Nat}
def Q1 (Q : Int32 → Int32 → Int64 → Int32 → Prop) (l : Nat) (r : Nat × Nat × Nat × Nat × Nat) : Prop := ∀ key kn, (r.1 = 1 → key = lN (k5 l r.2.2.1 r.2.2.2.1 r.2.2.2.2) ∧ kn = nI (cn r.2.2.1 r.2.2.2.1 r.2.2.2.2)) → Q (nI r.1) (nI r.2.1) key kn
def Q6 (Q : Int32 → Int32 → (Nat → Int32) → Prop) (rd : Nat → Int32) (i : Nat) (r : Nat × Nat × Nat × Nat × Nat) : Prop := ∀ rd', (r.1 = 1 → RD rd i r.2.2.1 r.2.2.2.1 r.2.2.2.2 rd') → Q (nI r.1) (nI r.2.1) rd'
theorem Q1_no {Q : Int32 → Int32 → Int64 → Int32 → Prop} {l a : Nat} (h : Q1 Q l (0, a, 0, 0, 0)) (key : Int64) (kn : Int32) : Q (nI 0) (nI a) key kn := h key kn (fun z => absurd z (by first | decide | exact n01))
theorem Q6_no {Q : Int32 → Int32 → (Nat → Int32) → Prop} {rd : Nat → Int32} {i a : Nat} (h : Q6 Q rd i (0, a, 0, 0, 0)) (rd' : Nat → Int32) : Q (nI 0) (nI a) rd' := h rd' (fun z => absurd z (by first | decide | exact n01))
theorem Q1_0 {Q : Int32 → Int32 → Int64 → Int32 → Prop} {l a : Nat} (h : Q1 Q l (1, a, 0, 0, 0)) : Q (nI 1) (nI a) (lN 0) (nI 0) := h _ _ (fun _ => ⟨by rw [k5_0], rfl⟩)
theorem Q1_1 {Q : Int32 → Int32 → Int64 → Int32 → Prop} {l a x : Nat} (hx : x ≠ 0) (h : Q1 Q l (1, a, x, 0, 0)) : Q (nI 1) (nI a) (lN (0 + c5 x * 2 ^ (20 * (ml l - (0 + 1))))) (nI (0 + 1)) := h _ _ (fun _ => ⟨by rw [k5_1], by rw [cn_1 hx]⟩)
theorem Q1_2 {Q : Int32 → Int32 → Int64 → Int32 → Prop} {l a x y : Nat} (hx : x ≠ 0) (hy : y ≠ 0) (h : Q1 Q l (1, a, x, y, 0)) : Q (nI 1) (nI a) (lN (0 + c5 x * 2 ^ (20 * (ml l - (0 + 1))) + c5 y * 2 ^ (20 * (ml l - (0 + 1 + 1))))) (nI (0 + 1 + 1)) := h _ _ (fun _ => ⟨by rw [k5_2], by rw [cn_2 hx hy]⟩)
theorem Q1_3 {Q : Int32 → Int32 → Int64 → Int32 → Prop} {l a x y z : Nat} (hx : x ≠ 0) (hy : y ≠ 0) (hz : z ≠ 0) (h : Q1 Q l (1, a, x, y, z)) : Q (nI 1) (nI a) (lN (0 + c5 x * 2 ^ (20 * (ml l - (0 + 1))) + c5 y * 2 ^ (20 * (ml l - (0 + 1 + 1))) + c5 z * 2 ^ (20 * (ml l - (0 + 1 + 1 + 1))))) (nI (0 + 1 + 1 + 1)) := h _ _ (fun _ => ⟨by rw [k5_3], by rw [cn_3 hx hy hz]⟩)
theorem s_lang1 {N a n : Nat} {x1 c0 c3 c4 : Int32} {Q : Int32 → Int32 → Int64 → Int32 → Prop} {K39 K49 K57 : Int32 → Int32 → Int64 → Int32 → Prop} (hN : 1000 < N) (hb : ∀ j, b j < 128) (htn : tn ≤ 120) (ha : a < 300) (h39 : ∀ z p k m, Q (nI 1) p k m → K39 z p k m) (h49 : ∀ z p k m, Q (nI 0) p k m → K49 z p k m) (h57 : ∀ z p k m, Q (nI 1) p k m → K57 z p k m) (hq : Q1 Q 1 (rgL b tn a)) : p_X1_readLanguage_17 N x1 c0 c3 c4 (nI tn) (tB b) K39 K49 K57 (n + 1 + 1 + 1 + 1) (nI 0) (nI a) (lN 0) (nI 0) := by
  unfold rgL at hq
  unfold p_X1_readLanguage_17
  simp (disch := omega) only [zl, zL, nS, gm1]
  refine ⟨fun h => absurd h (by omega), fun _ => ⟨fun _ => s_readName1 hN hb htn (by omega) (by decide) (by decide) (fun h0 => ⟨fun _ => ?_, fun h => absurd h (by decide)⟩) (fun h0 => ⟨fun h => absurd rfl h, fun _ => ?_⟩), fun h => absurd h (by omega)⟩⟩
  · have g0 := nmA_le h0; have z0 := nmV_nz h0
    rw [if_pos h0] at hq
    unfold p_X1_readLanguage_17
    simp (disch := omega) only [zl, zL, nS, gm1]
    refine ⟨fun h => absurd h (by omega), fun _ => ⟨fun h => absurd h (by omega), fun _ => s_skips1 hb htn (by omega) (by decide) (fun h1 => ⟨fun _ => ?_, fun h => absurd h (by decide)⟩) (fun h1 => ⟨fun h => absurd rfl h, fun _ => ?_⟩)⟩⟩
    · rw [if_pos h1] at hq
      refine s_readName1 hN hb htn (by omega) (by decide) (by decide) (fun h2 => ⟨fun _ => ?_, fun h => absurd h (by decide)⟩) (fun h2 => ⟨fun h => absurd rfl h, fun _ => ?_⟩)
      · have g2 := nmA_le h2; have z2 := nmV_nz h2
        rw [if_pos h2] at hq
        unfold p_X1_readLanguage_17
        simp (disch := omega) only [zl, zL, nS, gm1]
        refine ⟨fun h => absurd h (by omega), fun _ => ⟨fun h => absurd h (by omega), fun _ => s_skips1 hb htn (by omega) (by decide) (fun h3 => ⟨fun _ => ?_, fun h => absurd h (by decide)⟩) (fun h3 => ⟨fun h => absurd rfl h, fun _ => ?_⟩)⟩⟩
        · rw [if_pos h3] at hq
          refine s_readName1 hN hb htn (by omega) (by decide) (by decide) (fun h4 => ⟨fun _ => ?_, fun h => absurd h (by decide)⟩) (fun h4 => ⟨fun h => absurd rfl h, fun _ => ?_⟩)
          · rw [if_pos h4] at hq
            unfold p_X1_readLanguage_17
            simp (disch := omega) only [zl, zL, nS, gm1]
            exact ⟨fun _ => h57 _ _ _ _ (Q1_3 z0 z2 (nmV_nz h4) hq), fun h => absurd (by omega) h⟩
          · rw [if_neg h4] at hq
            exact h49 _ _ _ _ (Q1_no hq _ _)
        · rw [if_neg h3] at hq
          exact h39 _ _ _ _ (Q1_2 z0 z2 hq)
      · rw [if_neg h2] at hq
        exact h49 _ _ _ _ (Q1_no hq _ _)
    · rw [if_neg h1] at hq
      exact h39 _ _ _ _ (Q1_1 z0 hq)
  · rw [if_neg h0] at hq
    exact h49 _ _ _ _ (Q1_no hq _ _)
theorem s_readLanguage1 {N a m : Nat} {c0 c3 c4 : Int32} {Q : Int32 → Int32 → Int64 → Int32 → Prop} (hN : 1000 < N) (hb : ∀ j, b j < 128) (htn : tn ≤ 120) (ha : a < 300) (hm : m < 2) (hq : Q1 Q 1 (if m = 0 then rgL b tn a else if tC b tn a 42 then (1, a + 1, 0, 0, 0) else rgL b tn a)) : p_X1_readLanguage N (nI a) c0 (lN 0) (nI 0) c3 c4 (nI tn) (tB b) (nI m) Q := by
  obtain ⟨n, rfl⟩ : ∃ n, N = n + 1 + 1 + 1 + 1 := ⟨N - 4, by omega⟩
  unfold p_X1_readLanguage
  simp (disch := omega) only [zl, zL, nS]
  refine ⟨fun h => ?_, fun h => s_skips1 hb htn (by omega) (by decide) (fun h1 => ⟨fun z => absurd z (by first | decide | exact n01), fun _ => ?_⟩) (fun h1 => ⟨fun _ => ?_, fun z => absurd rfl z⟩)⟩
  · rw [if_pos h] at hq
    exact s_lang1 hN hb htn ha (fun _ _ _ _ h => h) (fun _ _ _ _ h => h) (fun _ _ _ _ h => h) hq
  · rw [if_neg h, if_pos h1] at hq
    exact Q1_0 hq
  · rw [if_neg h, if_neg h1] at hq
    exact s_lang1 hN hb htn ha (fun _ _ _ _ h => h) (fun _ _ _ _ h => h) (fun _ _ _ _ h => h) hq
theorem s_readType1 {N a m : Nat} {c0 c3 c4 : Int32} {Q : Int32 → Int32 → Int64 → Int32 → Prop} (hN : 1000 < N) (hb : ∀ j, b j < 128) (htn : tn ≤ 120) (ha : a < 300) (hm : m < 2) (hq : Q1 Q 0 (if m = 0 then vrT b tn a else rgT b tn a)) : p_X1_readType N (nI a) c0 (lN 0) (nI 0) c3 c4 (nI tn) (tB b) (nI m) Q := by
  unfold p_X1_readType
  simp (disch := omega) only [zl, zL, nS]
  refine ⟨fun h => ?_, fun h => ?_⟩
  · rw [if_pos h] at hq
    unfold vrT at hq
    refine s_readName1 hN hb htn (by omega) (by decide) (by decide) (fun h0 => ⟨fun z => absurd z (by first | decide | exact n01), fun _ => ?_⟩) (fun h0 => ⟨fun _ => ?_, fun z => absurd rfl z⟩)
    · have g0 := nmA_le h0; have z0 := nmV_nz h0
      rw [if_pos h0] at hq
      refine s_skips1 hb htn (by omega) (by decide) (fun h1 => ⟨fun _ => ⟨fun _ => ?_, fun z => absurd h z⟩, fun z => absurd z (by first | decide | exact n01)⟩) (fun h1 => ⟨fun z => absurd rfl z, fun _ => ?_⟩)
      · rw [if_pos h1] at hq
        refine s_readName1 hN hb htn (by omega) (by decide) (by decide) (fun h2 => ⟨fun z => absurd z (by first | decide | exact n01), fun _ => ?_⟩) (fun h2 => ⟨fun _ => ?_, fun z => absurd rfl z⟩)
        · rw [if_pos h2] at hq
          exact Q1_2 z0 (nmV_nz h2) hq
        · rw [if_neg h2] at hq
          exact Q1_no hq _ _
      · rw [if_neg h1] at hq
        exact Q1_no hq _ _
    · rw [if_neg h0] at hq
      exact Q1_no hq _ _
  · rw [if_neg h] at hq
    unfold rgT at hq
    refine s_skips1 hb htn (by omega) (by decide) (fun hs => ⟨fun z => absurd z (by first | decide | exact n01), fun _ => ?_⟩) (fun hs => ⟨fun _ => ?_, fun z => absurd rfl z⟩)
    · rw [if_pos hs] at hq
      refine s_skips1 hb htn (by omega) (by decide) (fun h1 => ⟨fun z => absurd z (by first | decide | exact n01), fun _ => ?_⟩) (fun h1 => ⟨fun _ => ?_, fun z => absurd rfl z⟩)
      · rw [if_pos h1] at hq
        refine s_skips1 hb htn (by omega) (by decide) (fun h2 => ⟨fun z => absurd z (by first | decide | exact n01), fun _ => ?_⟩) (fun h2 => ⟨fun _ => ?_, fun z => absurd rfl z⟩)
        · rw [if_pos h2] at hq
          exact Q1_0 hq
        · rw [if_neg h2] at hq
          exact Q1_no hq _ _
      · rw [if_neg h1] at hq
        exact Q1_no hq _ _
    · rw [if_neg hs] at hq
      refine s_readName1 hN hb htn (by omega) (by decide) (by decide) (fun h0 => ⟨fun z => absurd z (by first | decide | exact n01), fun _ => ?_⟩) (fun h0 => ⟨fun _ => ?_, fun z => absurd rfl z⟩)
      · have g0 := nmA_le h0; have z0 := nmV_nz h0
        rw [if_pos h0] at hq
        refine s_skips1 hb htn (by omega) (by decide) (fun h1 => ⟨fun _ => ⟨fun z => absurd z h, fun _ => ?_⟩, fun z => absurd z (by first | decide | exact n01)⟩) (fun h1 => ⟨fun z => absurd rfl z, fun _ => ?_⟩)
        · rw [if_pos h1] at hq
          refine s_skips1 hb htn (by omega) (by decide) (fun h3 => ⟨fun _ => ?_, fun z => absurd z (by first | decide | exact n01)⟩) (fun h3 => ⟨fun z => absurd rfl z, fun _ => ?_⟩)
          · rw [if_pos h3] at hq
            exact Q1_1 z0 hq
          · rw [if_neg h3] at hq
            refine s_readName1 hN hb htn (by omega) (by decide) (by decide) (fun h2 => ⟨fun z => absurd z (by first | decide | exact n01), fun _ => ?_⟩) (fun h2 => ⟨fun _ => ?_, fun z => absurd rfl z⟩)
            · rw [if_pos h2] at hq
              exact Q1_2 z0 (nmV_nz h2) hq
            · rw [if_neg h2] at hq
              exact Q1_no hq _ _
        · rw [if_neg h1] at hq
          exact Q1_no hq _ _
      · rw [if_neg h0] at hq
        exact Q1_no hq _ _
theorem bit1 {r : Nat} (h : r = 0 ∨ r = 1) : nI r &&& nI 1 = nI r := by rcases h with rfl | rfl <;> decide
theorem s_readKey {N a m l : Nat} {c0 c1 c3 c4 : Int32} {ky : Int64} {Q : Int32 → Int32 → Int64 → Int32 → Prop} (hN : 1000 < N) (hb : ∀ j, b j < 128) (htn : tn ≤ 120) (ha : a < 300) (hm : m < 2) (hl : l < 3) (hq : Q1 Q l (if m = 0 then vr b tn l a else rg b tn l a)) : p_X1_readKey N (nI a) c0 ky c1 c3 c4 (nI tn) (tB b) (nI l) (nI m) Q := by
  unfold p_X1_readKey
  simp (disch := omega) only [zl, zL, nS]
  refine ⟨fun h => ?_, fun h => ?_, fun h => ?_⟩
  · have : l = 2 := by omega
    subst this
    refine ⟨fun h2 => ?_, fun h2 => ?_⟩
    · rw [if_pos h2] at hq
      unfold vr vrC at hq
      rw [if_neg (by decide), if_neg (by decide)] at hq
      refine s_readName1 hN hb htn (by omega) (by decide) (by decide) (fun h0 => ⟨fun z => absurd z (by first | decide | exact n01), fun _ => ?_⟩) (fun h0 => ⟨fun _ => ?_, fun z => absurd rfl z⟩)
      · rw [if_pos h0] at hq
        exact Q1_1 (nmV_nz h0) hq
      · rw [if_neg h0] at hq
        exact Q1_no hq _ _
    · rw [if_neg h2] at hq
      unfold rg vrC at hq
      rw [if_neg (by decide), if_neg (show ¬ (2 : Nat) = 1 by decide)] at hq
      refine s_skips1 hb htn (by omega) (by decide) (fun h1 => ⟨fun _ => ?_, fun z => absurd z (by first | decide | exact n01)⟩) (fun h1 => ⟨fun z => absurd rfl z, fun _ => ?_⟩)
      · rw [if_pos h1] at hq
        exact Q1_0 hq
      · rw [if_neg h1] at hq
        refine s_readName1 hN hb htn (by omega) (by decide) (by decide) (fun h0 => ⟨fun z => absurd z (by first | decide | exact n01), fun _ => ?_⟩) (fun h0 => ⟨fun _ => ?_, fun z => absurd rfl z⟩)
        · rw [if_pos h0] at hq
          exact Q1_1 (nmV_nz h0) hq
        · rw [if_neg h0] at hq
          exact Q1_no hq _ _
  · have : l = 0 := by omega
    subst this
    refine s_readType1 hN hb htn ha hm ?_
    have e : (if m = 0 then vrT b tn a else rgT b tn a) = (if m = 0 then vr b tn 0 a else rg b tn 0 a) := by
      unfold vr rg
      rw [if_pos rfl, if_pos rfl]
    rw [e]
    refine fun key kn hk => ⟨bit1 ?_, hq key kn hk⟩
    by_cases h0 : m = 0
    · rw [if_pos h0]; exact (vr_out hl a).1
    · rw [if_neg h0]; exact (rg_out hl a).1
  · have : l = 1 := by omega
    subst this
    refine s_readLanguage1 hN hb htn ha hm ?_
    have e : (if m = 0 then rgL b tn a else if tC b tn a 42 then (1, a + 1, 0, 0, 0) else rgL b tn a) = (if m = 0 then vr b tn 1 a else rg b tn 1 a) := by
      unfold vr rg
      simp only [show ¬ (1 : Nat) = 0 by decide, if_false, if_true]
    rw [e]
    refine fun key kn hk => ⟨bit1 ?_, hq key kn hk⟩
    by_cases h0 : m = 0
    · rw [if_pos h0]; exact (vr_out hl a).1
    · rw [if_neg h0]; exact (rg_out hl a).1
/-! the reference's -/
theorem Q6_0 {Q : Int32 → Int32 → (Nat → Int32) → Prop} {rd : Nat → Int32} {i a : Nat} (hz : Z3 rd i) (h : Q6 Q rd i (1, a, 0, 0, 0)) : Q (nI 1) (nI a) rd := h _ (fun _ => RD0 hz)
theorem Q6_1 {Q : Int32 → Int32 → (Nat → Int32) → Prop} {rd : Nat → Int32} {i a x : Nat} (hz : Z3 rd i) (h : Q6 Q rd i (1, a, x, 0, 0)) : Q (nI 1) (nI a) (upd rd i (nI x)) := h _ (fun _ => RD1 hz x)
theorem Q6_2 {Q : Int32 → Int32 → (Nat → Int32) → Prop} {rd : Nat → Int32} {i a x y : Nat} (hz : Z3 rd i) (h : Q6 Q rd i (1, a, x, y, 0)) : Q (nI 1) (nI a) (upd (upd rd i (nI x)) (i + 1) (nI y)) := h _ (fun _ => RD2 hz x y)
theorem Q6_3 {Q : Int32 → Int32 → (Nat → Int32) → Prop} {rd : Nat → Int32} {i a x y z : Nat} (hz : Z3 rd i) (h : Q6 Q rd i (1, a, x, y, z)) : Q (nI 1) (nI a) (upd (upd (upd rd i (nI x)) (i + 1) (nI y)) (i + 2) (nI z)) := h _ (fun _ => RD3 hz x y z)
end RR
/-! weights and whole lists: class and reference read alike -/
section LL
variable {b : Nat → Nat} {tn : Nat}
theorem sk_stop (a : Nat) (h : ¬ tC b tn a 32) : sk b tn a = a := by rw [sk_eq, if_neg h]
theorem sk_end : ∀ (r a : Nat), tn - a ≤ r → ¬ tC b tn (sk b tn a) 32
  | 0, a, h => by
    have hq : ¬ tC b tn a 32 := fun q => by have := q.1; omega
    rw [sk_stop a hq]; exact hq
  | r + 1, a, h => by
    by_cases q : tC b tn a 32
    · rw [sk_eq, if_pos q]; exact sk_end r (a + 1) (by have := q.1; omega)
    · rw [sk_stop a q]; exact q
theorem sk_sk (a : Nat) : sk b tn (sk b tn a) = sk b tn a := sk_stop _ (sk_end _ a (Nat.le_refl _))
theorem sk_tn {a : Nat} (h : a ≤ tn) : sk b tn a ≤ tn := by have := sk_le (b := b) (tn := tn) a; omega
/-- behind a range: whether the weight is one, behind it (or where it fails), the weight -/
def wt (b : Nat → Nat) (tn a : Nat) : Nat × Nat × Nat :=
  if tC b tn (sk b tn a) 59 then
    if sk b tn (sk b tn a + 1) < (dg b tn 4 0 (sk b tn (sk b tn a + 1))).2 then
      if tD b tn (dg b tn 4 0 (sk b tn (sk b tn a + 1))).2 then (0, (dg b tn 4 0 (sk b tn (sk b tn a + 1))).2, 0)
      else if (dg b tn 4 0 (sk b tn (sk b tn a + 1))).1 ≤ 1000 then (1, sk b tn (dg b tn 4 0 (sk b tn (sk b tn a + 1))).2, (dg b tn 4 0 (sk b tn (sk b tn a + 1))).1)
      else (0, sk b tn (sk b tn a + 1), 0)
    else (0, (dg b tn 4 0 (sk b tn (sk b tn a + 1))).2, 0)
  else (1, sk b tn a, 1000)
theorem dgs {r x a : Nat} (h : a ≤ tn) : (dg b tn r x a).2 ≤ tn ∧ a ≤ (dg b tn r x a).2 := by
  have := dg_bd (b := b) (tn := tn) r x a
  omega
theorem wt_out {a : Nat} (ha : a ≤ tn) : ((wt b tn a).1 = 0 ∨ (wt b tn a).1 = 1) ∧ (wt b tn a).2.1 ≤ tn ∧ (wt b tn a).2.2 ≤ 1000 ∧ ((wt b tn a).1 = 1 → sk b tn (wt b tn a).2.1 = (wt b tn a).2.1) := by
  unfold wt
  have h1 := sk_tn (b := b) ha
  by_cases q : tC b tn (sk b tn a) 59
  · have h2 := sk_tn (b := b) (tn := tn) (a := sk b tn a + 1) (by have := q.1; omega)
    have h3 := dgs (b := b) (r := 4) (x := 0) h2
    rw [if_pos q]
    by_cases q1 : sk b tn (sk b tn a + 1) < (dg b tn 4 0 (sk b tn (sk b tn a + 1))).2
    · rw [if_pos q1]
      by_cases q2 : tD b tn (dg b tn 4 0 (sk b tn (sk b tn a + 1))).2
      · rw [if_pos q2]
        exact ⟨Or.inl rfl, h3.1, Nat.zero_le _, fun z => absurd z (by first | decide | exact n01)⟩
      · rw [if_neg q2]
        by_cases q3 : (dg b tn 4 0 (sk b tn (sk b tn a + 1))).1 ≤ 1000
        · rw [if_pos q3]
          exact ⟨Or.inr rfl, sk_tn h3.1, q3, fun _ => sk_sk _⟩
        · rw [if_neg q3]
          exact ⟨Or.inl rfl, h2, Nat.zero_le _, fun z => absurd z (by first | decide | exact n01)⟩
    · rw [if_neg q1]
      exact ⟨Or.inl rfl, h3.1, Nat.zero_le _, fun z => absurd z (by first | decide | exact n01)⟩
  · rw [if_neg q]
    exact ⟨Or.inr rfl, h1, Nat.le_refl _, fun _ => sk_sk _⟩
theorem s_readWeight1 {N a : Nat} {c0 c1 c3 c4 : Int32} {ky : Int64} {Q : Int32 → Int32 → Int32 → Prop} (hN : 1000 < N) (hb : ∀ j, b j < 128) (htn : tn ≤ 120) (ha : a ≤ tn)
    (h1 : (wt b tn a).1 = 1 → Q nM (nI (wt b tn a).2.1) (nI (wt b tn a).2.2)) (h0 : (wt b tn a).1 = 0 → ∀ p z, Q (nI (wt b tn a).2.1) p z) (h2 : (wt b tn a).1 = 0 → tD b tn (wt b tn a).2.1 → ∀ z, Q nM (nI (wt b tn a).2.1) z) : p_X1_readWeight N (nI a) c0 ky c1 c3 c4 (nI tn) (tB b) Q := by
  have g1 := sk_tn (b := b) ha
  unfold wt at h1 h0 h2
  unfold p_X1_readWeight
  simp (disch := omega) only [zl, nS, nSm]
  refine s_skipSpaces hN hb htn (by omega) ?_
  refine s_skips1 hb htn (by omega) (by decide) (fun q => ⟨fun _ => ?_, fun z => absurd z (by first | decide | exact n01)⟩) (fun q => ⟨fun z => absurd rfl z, fun _ => ?_⟩)
  · have g2 := sk_tn (b := b) (tn := tn) (a := sk b tn a + 1) (by have := q.1; omega)
    have g3 := dgs (b := b) (r := 4) (x := 0) g2
    rw [if_pos q] at h1 h0 h2
    refine s_skipSpaces hN hb htn (by omega) ?_
    refine s_readNumber hN hb htn (by decide) (by omega) (fun q1 => ⟨fun _ => ?_, fun z => absurd z (by first | decide | exact n01)⟩) (fun q1 => ⟨fun z => absurd rfl z, fun _ => ?_⟩)
    · rw [if_pos q1] at h1 h0 h2
      have gx := dg_bd (b := b) (tn := tn) 4 0 (sk b tn (sk b tn a + 1))
      have gx2 := gx.2.2.2
      simp (disch := omega) only [nS]
      by_cases q2 : tD b tn (dg b tn 4 0 (sk b tn (sk b tn a + 1))).2
      · rw [if_pos q2] at h1 h0 h2
        refine ⟨fun q3 => s_skipSpaces hN hb htn (by omega) ?_, fun q3 => s_peek htn (by omega) (s_isDigit ?_)⟩
        · rw [sk_stop _ (fun z => by have := z.2; have := q2.2; omega)]
          exact h2 rfl q2 _
        · simp (disch := omega) only [zl, tHS hb, bI_0]
          exact ⟨fun z => absurd ⟨⟨q2.1, q2.2.1⟩, by have := q2.2.2; omega⟩ z, fun _ => h0 rfl _ _⟩
      · rw [if_neg q2] at h1 h0 h2
        refine ⟨fun q3 => s_skipSpaces hN hb htn (by omega) ?_, fun q3 => s_peek htn (by omega) (s_isDigit ?_)⟩
        · rw [if_pos q3] at h1
          exact h1 rfl
        · rw [if_neg q3] at h0
          simp (disch := omega) only [zl, tHS hb, bI_0]
          exact ⟨fun _ => h0 rfl _ _, fun z => absurd (fun z1 => q2 ⟨z1.1.1, z1.1.2, by have := z1.2; have := z1.1; omega⟩) z⟩
    · rw [if_neg q1] at h0
      exact h0 rfl _ _
  · rw [if_neg q] at h1
    exact h1 rfl
def putE (V : Nat → Nat) (e x0 x1 x2 w : Nat) : Nat → Nat := fun j => if j = 4 * e then x0 else if j = 4 * e + 1 then x1 else if j = 4 * e + 2 then x2 else if j = 4 * e + 3 then w else V j
theorem putE_at {V : Nat → Nat} {e x0 x1 x2 w : Nat} : putE V e x0 x1 x2 w (4 * e) = x0 ∧ putE V e x0 x1 x2 w (4 * e + 1) = x1 ∧ putE V e x0 x1 x2 w (4 * e + 2) = x2 ∧ putE V e x0 x1 x2 w (4 * e + 3) = w := by
  unfold putE
  refine ⟨if_pos rfl, ?_, ?_, ?_⟩
  · rw [if_neg (by omega), if_pos rfl]
  · rw [if_neg (by omega), if_neg (by omega), if_pos rfl]
  · rw [if_neg (by omega), if_neg (by omega), if_neg (by omega), if_pos rfl]
theorem putE_o {V : Nat → Nat} {e x0 x1 x2 w j : Nat} (h : j < 4 * e ∨ 4 * e + 4 ≤ j) : putE V e x0 x1 x2 w j = V j := by
  unfold putE
  rw [if_neg (by omega), if_neg (by omega), if_neg (by omega), if_neg (by omega)]
/-- the list from entry e on, r entries at most: whether it is one, where it fails, how many entries, the cells -/
def ls (b : Nat → Nat) (tn l : Nat) : Nat → Nat → Nat → (Nat → Nat) → Nat × Nat × Nat × (Nat → Nat)
  | 0, e, a, V => (0, a, e, V)
  | r + 1, e, a, V =>
    if (rg b tn l a).1 = 1 then
      if (wt b tn (rg b tn l a).2.1).1 = 1 then
        if (wt b tn (rg b tn l a).2.1).2.1 < tn then
          if b (wt b tn (rg b tn l a).2.1).2.1 = 44 then ls b tn l r (e + 1) (sk b tn ((wt b tn (rg b tn l a).2.1).2.1 + 1)) (putE V e (rg b tn l a).2.2.1 (rg b tn l a).2.2.2.1 (rg b tn l a).2.2.2.2 (wt b tn (rg b tn l a).2.1).2.2)
          else (0, (wt b tn (rg b tn l a).2.1).2.1, e, V)
        else (1, (wt b tn (rg b tn l a).2.1).2.1, e + 1, putE V e (rg b tn l a).2.2.1 (rg b tn l a).2.2.2.1 (rg b tn l a).2.2.2.2 (wt b tn (rg b tn l a).2.1).2.2)
      else (0, (wt b tn (rg b tn l a).2.1).2.1, e, V)
    else (0, (rg b tn l a).2.1, e, V)
/-- the cells of a list of n entries -/
def LV (l n : Nat) (V : Nat → Nat) : Prop := (∀ i, i < n → okR l (V (4 * i)) (V (4 * i + 1)) (V (4 * i + 2)) ∧ V (4 * i + 3) ≤ 1000) ∧ (∀ j, 4 * n ≤ j → V j = 0)
theorem LV_put {l e x0 x1 x2 w : Nat} {V : Nat → Nat} (h : LV l e V) (h1 : okR l x0 x1 x2) (hw : w ≤ 1000) : LV l (e + 1) (putE V e x0 x1 x2 w) := by
  refine ⟨fun i hi => ?_, fun j hj => ?_⟩
  · by_cases q : i = e
    · subst q
      obtain ⟨p0, p1, p2, p3⟩ := putE_at (V := V) (e := i) (x0 := x0) (x1 := x1) (x2 := x2) (w := w)
      rw [p0, p1, p2, p3]
      exact ⟨h1, hw⟩
    · rw [putE_o (by omega), putE_o (by omega), putE_o (by omega), putE_o (by omega)]
      exact h.1 i (by omega)
  · rw [putE_o (by omega)]
    exact h.2 j (by omega)
theorem ls_out {l : Nat} (hl : l < 3) : ∀ (r e a : Nat) (V : Nat → Nat), e + r = 10 → a ≤ tn → LV l e V → ((ls b tn l r e a V).1 = 0 ∨ (ls b tn l r e a V).1 = 1) ∧ (ls b tn l r e a V).2.1 ≤ tn ∧ ((ls b tn l r e a V).1 = 1 → (ls b tn l r e a V).2.2.1 ≤ 10 ∧ LV l (ls b tn l r e a V).2.2.1 (ls b tn l r e a V).2.2.2)
  | 0, e, a, V, he, ha, hV => ⟨Or.inl rfl, ha, fun z => absurd z (by first | decide | exact n01)⟩
  | r + 1, e, a, V, he, ha, hV => by
    obtain ⟨g1, g2, g3⟩ := rg_out (b := b) (tn := tn) hl a
    unfold ls
    by_cases q : (rg b tn l a).1 = 1
    · obtain ⟨g4, g5, g6⟩ := g3 q
      obtain ⟨k1, k2, k3, k4⟩ := wt_out (b := b) g5
      rw [if_pos q]
      by_cases q1 : (wt b tn (rg b tn l a).2.1).1 = 1
      · rw [if_pos q1]
        by_cases q2 : (wt b tn (rg b tn l a).2.1).2.1 < tn
        · rw [if_pos q2]
          by_cases q3 : b (wt b tn (rg b tn l a).2.1).2.1 = 44
          · rw [if_pos q3]
            exact ls_out hl r (e + 1) _ _ (by omega) (sk_tn (by omega)) (LV_put hV g6 k3)
          · rw [if_neg q3]
            exact ⟨Or.inl rfl, k2, fun z => absurd z (by first | decide | exact n01)⟩
        · rw [if_neg q2]
          exact ⟨Or.inr rfl, k2, fun _ => ⟨by show e + 1 ≤ 10; omega, LV_put hV g6 k3⟩⟩
      · rw [if_neg q1]
        exact ⟨Or.inl rfl, k2, fun z => absurd z (by first | decide | exact n01)⟩
    · rw [if_neg q]
      exact ⟨Or.inl rfl, by show (rg b tn l a).2.1 ≤ tn; omega, fun z => absurd z (by first | decide | exact n01)⟩
/-- the class's rows hold the cells V of e entries -/
def LR (l e : Nat) (V : Nat → Nat) (ranges : Nat → Int64) (names weights : Nat → Int32) : Prop := ∀ i, i < e → ranges i = lN (k5 l (V (4 * i)) (V (4 * i + 1)) (V (4 * i + 2))) ∧ names i = nI (cn (V (4 * i)) (V (4 * i + 1)) (V (4 * i + 2))) ∧ weights i = nI (V (4 * i + 3))
theorem LR_put {l e x0 x1 x2 w : Nat} {V : Nat → Nat} {ranges : Nat → Int64} {names weights : Nat → Int32} {k : Int64} {m z : Int32} (h : LR l e V ranges names weights) (hk : k = lN (k5 l x0 x1 x2) ∧ m = nI (cn x0 x1 x2)) (hz : z = nI w) : LR l (e + 1) (putE V e x0 x1 x2 w) (vp_updL ranges e k) (upd names e m) (upd weights e z) := by
  intro i hi
  by_cases q : i = e
  · subst q
    obtain ⟨p0, p1, p2, p3⟩ := putE_at (V := V) (e := i) (x0 := x0) (x1 := x1) (x2 := x2) (w := w)
    rw [p0, p1, p2, p3, updL_at, upd_at, upd_at, if_pos rfl, if_pos rfl, if_pos rfl]
    exact ⟨hk.1, hk.2, hz⟩
  · rw [putE_o (by omega), putE_o (by omega), putE_o (by omega), putE_o (by omega), updL_at, upd_at, upd_at, if_neg q, if_neg q, if_neg q]
    exact h i (by omega)
def fault (o : Nat × Nat × Nat × (Nat → Nat)) : Int32 := if o.1 = 1 then nM else nI o.2.1
theorem s_readList_25 {N l : Nat} {c4 : Int32} {Q : Int32 → Int32 → Int32 → Int64 → Int32 → Int32 → (Nat → Int64) → (Nat → Int32) → (Nat → Int32) → Prop}
    {K40 K95 : Int32 → Int32 → Int32 → Int64 → Int32 → Int32 → (Nat → Int64) → (Nat → Int32) → (Nat → Int32) → Prop} {K55 K69 K80 : Int32 → Int32 → Int32 → Int64 → Int32 → Int32 → (Nat → Int64) → (Nat → Int32) → (Nat → Int32) → Int32 → Prop}
    (hN : 1000 < N) (hb : ∀ j, b j < 128) (htn : tn ≤ 120) (hl : l < 3)
    (h40 : ∀ z p u k m e r s t, Q p p u k m e r s t → K40 z p u k m e r s t) (h55 : ∀ z p u k m e r s t y, Q y p u k m e r s t → K55 z p u k m e r s t y) (h69 : ∀ z p u k m e r s t y, Q nM p u k m e r s t → K69 z p u k m e r s t y) (h80 : ∀ z p u k m e r s t y, Q p p u k m e r s t → K80 z p u k m e r s t y) (h95 : ∀ z p u k m e r s t, Q p p u k m e r s t → K95 z p u k m e r s t) :
    ∀ (n r e a : Nat) (V : Nat → Nat) (u : Int32) (k : Int64) (m : Int32) (ranges : Nat → Int64) (names weights : Nat → Int32), e + r = 10 → r < n → a ≤ tn → LR l e V ranges names weights →
    (∀ p u k m en rs ns ws, ((ls b tn l r e a V).1 = 1 → en = nI (ls b tn l r e a V).2.2.1 ∧ LR l (ls b tn l r e a V).2.2.1 (ls b tn l r e a V).2.2.2 rs ns ws) → Q (fault (ls b tn l r e a V)) p u k m en rs ns ws) →
    p_X1_readList_25 N (nI l) c4 (nI tn) (tB b) K40 K55 K69 K80 K95 n (nI e) (nI a) u k m (nI e) ranges names weights := by
  intro n
  induction n with
  | zero => intro r e a V u k m ranges names weights h1 h2; omega
  | succ n ih =>
    intro r e a V u k m ranges names weights he hn ha hR hq
    unfold p_X1_readList_25
    simp (disch := omega) only [zl, nS, nSm]
    refine ⟨fun h => ?_, fun h => ?_⟩
    · have : r = 0 := by omega
      subst this
      exact h95 _ _ _ _ _ _ _ _ _ (hq _ _ _ _ _ _ _ _ (fun z => absurd z (by first | decide | exact n01)))
    · obtain ⟨r, rfl⟩ : ∃ r', r = r' + 1 := ⟨r - 1, by omega⟩
      obtain ⟨g1, g2, g3⟩ := rg_out (b := b) (tn := tn) hl a
      unfold ls at hq
      refine s_readKey hN hb htn (by omega) (by decide) hl ?_
      rw [if_neg (by decide)]
      intro key kn hk
      refine ⟨fun q => ?_, fun q => ?_⟩
      · have q : (rg b tn l a).1 = 1 := by
          rcases g1 with z | z
          · rw [z] at q; exact absurd rfl q
          · exact z
        obtain ⟨g4, g5, g6⟩ := g3 q
        obtain ⟨k1, k2, k3, k4⟩ := wt_out (b := b) g5
        rw [if_pos q] at hq
        refine s_readWeight1 hN hb htn g5 (fun q1 => ?_) (fun q1 p z => ?_) (fun q1 hd z => ?_)
        · rw [if_pos q1] at hq
          simp (disch := omega) only [nSm]
          refine ⟨fun _ => ?_, fun z => absurd trivial z⟩
          unfold p_X1_keepEntry
          simp (disch := omega) only [zl, nS]
          refine ⟨by omega, by omega, by omega, s_atEnd htn (by omega) (fun q2 => ⟨fun z => absurd z (by first | decide | exact n01), fun _ => ?_⟩) (fun q2 => ⟨fun _ => ?_, fun z => absurd rfl z⟩)⟩
          · rw [if_neg q2] at hq
            exact h69 _ _ _ _ _ _ _ _ _ _ (hq _ _ _ _ _ _ _ _ (fun _ => ⟨rfl, LR_put hR (hk q) rfl⟩))
          · rw [if_pos q2] at hq
            refine s_skips1 hb htn (by omega) (by decide) (fun q3 => ⟨fun _ => ?_, fun z => absurd z (by first | decide | exact n01)⟩) (fun q3 => ⟨fun z => absurd rfl z, fun _ => ?_⟩)
            · rw [if_pos q3.2] at hq
              refine s_skipSpaces hN hb htn (by omega) ?_
              exact ih r (e + 1) _ _ _ _ _ _ _ _ (by omega) (by omega) (sk_tn (by omega)) (LR_put hR (hk q) rfl) hq
            · rw [if_neg (fun z => q3 ⟨q2, z⟩)] at hq
              exact h80 _ _ _ _ _ _ _ _ _ _ (hq _ _ _ _ _ _ _ _ (fun z => absurd z (by first | decide | exact n01)))
        · rw [if_neg (by omega)] at hq
          simp (disch := omega) only [nSm]
          exact ⟨fun z => z.elim, fun _ => h55 _ _ _ _ _ _ _ _ _ _ (hq _ _ _ _ _ _ _ _ (fun z => absurd z (by first | decide | exact n01)))⟩
        · rw [if_neg (by omega)] at hq
          simp (disch := omega) only [nSm]
          refine ⟨fun _ => ?_, fun z => absurd trivial z⟩
          unfold p_X1_keepEntry
          simp (disch := omega) only [zl, nS]
          refine ⟨by omega, by omega, by omega, s_atEnd htn (by omega) (fun q2 => absurd hd.1 q2) (fun q2 => ⟨fun _ => ?_, fun z => absurd rfl z⟩)⟩
          refine s_skips1 hb htn (by omega) (by decide) (fun q3 => absurd q3.2 (by have := hd.2; omega)) (fun q3 => ⟨fun z => absurd rfl z, fun _ => ?_⟩)
          exact h80 _ _ _ _ _ _ _ _ _ _ (hq _ _ _ _ _ _ _ _ (fun z => absurd z (by first | decide | exact n01)))
      · have q : (rg b tn l a).1 = 0 := by
          rcases g1 with z | z
          · exact z
          · rw [z] at q; exact absurd q (by decide)
        rw [if_neg (by omega)] at hq
        exact h40 _ _ _ _ _ _ _ _ _ (hq _ _ _ _ _ _ _ _ (fun z => absurd z (by first | decide | exact n01)))
/-- the whole text as list l -/
def lsW (b : Nat → Nat) (tn l : Nat) : Nat × Nat × Nat × (Nat → Nat) := if sk b tn 0 < tn then ls b tn l 10 0 (sk b tn 0) (fun _ => 0) else (1, sk b tn 0, 0, fun _ => 0)
theorem LV_0 (l : Nat) : LV l 0 (fun _ => 0) := ⟨fun i h => absurd h (by omega), fun _ _ => rfl⟩
theorem lsW_out {l : Nat} (hl : l < 3) : ((lsW b tn l).1 = 0 ∨ (lsW b tn l).1 = 1) ∧ (lsW b tn l).2.1 ≤ tn ∧ ((lsW b tn l).1 = 1 → (lsW b tn l).2.2.1 ≤ 10 ∧ LV l (lsW b tn l).2.2.1 (lsW b tn l).2.2.2) := by
  unfold lsW
  by_cases q : sk b tn 0 < tn
  · rw [if_pos q]
    exact ls_out hl 10 0 _ _ rfl (sk_tn (Nat.zero_le _)) (LV_0 l)
  · rw [if_neg q]
    exact ⟨Or.inr rfl, sk_tn (Nat.zero_le _), fun _ => ⟨by show 0 ≤ 10; omega, LV_0 l⟩⟩
theorem s_readList1 {N l : Nat} {c0 c1 c2 c3 c4 : Int32} {k : Int64} {ranges : Nat → Int64} {names weights : Nat → Int32} {Q : Int32 → Int32 → Int32 → Int64 → Int32 → Int32 → (Nat → Int64) → (Nat → Int32) → (Nat → Int32) → Prop}
    (hN : 1000 < N) (hb : ∀ j, b j < 128) (htn : tn ≤ 120) (hl : l < 3)
    (hq : ∀ p u k m en rs ns ws, ((lsW b tn l).1 = 1 → en = nI (lsW b tn l).2.2.1 ∧ LR l (lsW b tn l).2.2.1 (lsW b tn l).2.2.2 rs ns ws) → Q (fault (lsW b tn l)) p u k m en rs ns ws) :
    p_X1_readList N c0 c1 k c2 c3 c4 (nI tn) (tB b) ranges names weights (nI l) Q := by
  unfold p_X1_readList
  unfold lsW at hq
  have g1 := sk_tn (b := b) (tn := tn) (Nat.zero_le _)
  simp (disch := omega) only [zl, nSm]
  refine s_skipSpaces hN hb htn (by omega) (s_atEnd htn (by omega) (fun q => ⟨fun z => absurd z (by first | decide | exact n01), fun _ => ?_⟩) (fun q => ⟨fun _ => ?_, fun z => absurd rfl z⟩))
  · rw [if_neg q] at hq
    exact hq _ _ _ _ _ _ _ _ (fun _ => ⟨rfl, fun i h => absurd h (by show ¬ i < 0; omega)⟩)
  · rw [if_pos q] at hq
    exact s_readList_25 hN hb htn hl (fun _ _ _ _ _ _ _ _ _ h => h) (fun _ _ _ _ _ _ _ _ _ _ h => h) (fun _ _ _ _ _ _ _ _ _ _ h => h) (fun _ _ _ _ _ _ _ _ _ _ h => h) (fun _ _ _ _ _ _ _ _ _ h => h) N 10 0 _ _ _ _ _ _ _ _ rfl (by omega) g1 (fun i h => absurd h (by omega)) hq
/-! the reference's -/
def RV (V : Nat → Nat) (rd : Nat → Int32) : Prop := ∀ j, j < 40 → rd j = nI (V j)
theorem RV_put {e x0 x1 x2 w : Nat} {V : Nat → Nat} {rd rd' : Nat → Int32} (h : RV V rd) (h1 : RD rd (4 * e) x0 x1 x2 rd') : RV (putE V e x0 x1 x2 w) (upd rd' (4 * e + 3) (nI w)) := by
  intro j hj
  rw [upd_at, h1 j]
  unfold putE
  by_cases q0 : j = 4 * e
  · rw [if_neg (by omega), if_pos q0, if_pos q0]
  · by_cases q1 : j = 4 * e + 1
    · rw [if_neg (by omega), if_neg q0, if_neg q0, if_pos q1, if_pos q1]
    · by_cases q2 : j = 4 * e + 2
      · rw [if_neg (by omega), if_neg q0, if_neg q0, if_neg q1, if_neg q1, if_pos q2, if_pos q2]
      · by_cases q3 : j = 4 * e + 3
        · rw [if_pos q3, if_neg q0, if_neg q1, if_neg q2, if_pos q3]
        · rw [if_neg q3, if_neg q0, if_neg q0, if_neg q1, if_neg q1, if_neg q2, if_neg q2, if_neg q3]
          exact h j hj
end LL
/-! a variant's text: class and reference read alike -/
section VV
variable {b : Nat → Nat} {tn : Nat}
/-- after a thing of the variant: a space must follow; then whether it does, behind the spaces -/
def spc (b : Nat → Nat) (tn a : Nat) : Prop := tC b tn a 32
theorem sk_spc {a : Nat} : a < sk b tn a ↔ tC b tn a 32 := by
  constructor
  · intro h
    by_cases q : tC b tn a 32
    · exact q
    · rw [sk_stop a q] at h; omega
  · intro q
    rw [sk_eq, if_pos q]
    have := sk_ge (b := b) (tn := tn) (a + 1)
    omega
/-- a variant: whether the text is one, where it fails, its size; g0, g1, g2: its three things -/
def vs2 (b : Nat → Nat) (tn : Nat) (g2 : Nat × Nat × Nat × Nat × Nat) : Nat × Nat × Nat :=
  if g2.1 = 1 then
    if tC b tn g2.2.1 32 then
      if sk b tn g2.2.1 < (dg b tn 6 0 (sk b tn g2.2.1)).2 then
        if sk b tn (dg b tn 6 0 (sk b tn g2.2.1)).2 < tn then (0, sk b tn (dg b tn 6 0 (sk b tn g2.2.1)).2, 0)
        else (1, sk b tn (dg b tn 6 0 (sk b tn g2.2.1)).2, (dg b tn 6 0 (sk b tn g2.2.1)).1)
      else (0, (dg b tn 6 0 (sk b tn g2.2.1)).2, 0)
    else (0, g2.2.1, 0)
  else (0, g2.2.1, 0)
def vs1 (b : Nat → Nat) (tn : Nat) (g1 : Nat × Nat × Nat × Nat × Nat) : Nat × Nat × Nat :=
  if g1.1 = 1 then
    if tC b tn g1.2.1 32 then vs2 b tn (vr b tn 2 (sk b tn g1.2.1))
    else (0, g1.2.1, 0)
  else (0, g1.2.1, 0)
def vs0 (b : Nat → Nat) (tn : Nat) (g0 : Nat × Nat × Nat × Nat × Nat) : Nat × Nat × Nat :=
  if g0.1 = 1 then
    if tC b tn g0.2.1 32 then vs1 b tn (vr b tn 1 (sk b tn g0.2.1))
    else (0, g0.2.1, 0)
  else (0, g0.2.1, 0)
def G0 (b : Nat → Nat) (tn : Nat) := vr b tn 0 (sk b tn 0)
def G1 (b : Nat → Nat) (tn : Nat) := vr b tn 1 (sk b tn (G0 b tn).2.1)
def G2 (b : Nat → Nat) (tn : Nat) := vr b tn 2 (sk b tn (G1 b tn).2.1)
def vsW (b : Nat → Nat) (tn : Nat) : Nat × Nat × Nat := vs0 b tn (G0 b tn)
theorem vsW_out : ((vsW b tn).1 = 0 ∨ (vsW b tn).1 = 1) ∧ (vsW b tn).2.1 ≤ tn ∧ ((vsW b tn).1 = 1 → (vsW b tn).2.2 < 1000000 ∧ (G0 b tn).1 = 1 ∧ (G1 b tn).1 = 1 ∧ (G2 b tn).1 = 1) := by
  unfold vsW vs0
  have t0 := sk_tn (b := b) (tn := tn) (Nat.zero_le _)
  obtain ⟨a1, a2, a3⟩ := vr_out (b := b) (tn := tn) (l := 0) (by decide) (sk b tn 0)
  have b0 : (G0 b tn).2.1 ≤ tn := by unfold G0; omega
  by_cases q0 : (G0 b tn).1 = 1
  · rw [if_pos q0]
    by_cases s0 : tC b tn (G0 b tn).2.1 32
    · rw [if_pos s0]
      have t1 := sk_tn (b := b) b0
      obtain ⟨a4, a5, a6⟩ := vr_out (b := b) (tn := tn) (l := 1) (by decide) (sk b tn (G0 b tn).2.1)
      have b1 : (G1 b tn).2.1 ≤ tn := by unfold G1; omega
      show _ ∧ _ ∧ _
      rw [show vr b tn 1 (sk b tn (G0 b tn).2.1) = G1 b tn from rfl]
      unfold vs1
      by_cases q1 : (G1 b tn).1 = 1
      · rw [if_pos q1]
        by_cases s1 : tC b tn (G1 b tn).2.1 32
        · rw [if_pos s1]
          have t2 := sk_tn (b := b) b1
          obtain ⟨a7, a8, a9⟩ := vr_out (b := b) (tn := tn) (l := 2) (by decide) (sk b tn (G1 b tn).2.1)
          have b2 : (G2 b tn).2.1 ≤ tn := by unfold G2; omega
          rw [show vr b tn 2 (sk b tn (G1 b tn).2.1) = G2 b tn from rfl]
          unfold vs2
          by_cases q2 : (G2 b tn).1 = 1
          · rw [if_pos q2]
            by_cases s2 : tC b tn (G2 b tn).2.1 32
            · rw [if_pos s2]
              have t3 := sk_tn (b := b) b2
              have d1 := dgs (b := b) (r := 6) (x := 0) t3
              have d2 := (dg_bd (b := b) (tn := tn) 6 0 (sk b tn (G2 b tn).2.1)).2.2.2
              by_cases q3 : sk b tn (G2 b tn).2.1 < (dg b tn 6 0 (sk b tn (G2 b tn).2.1)).2
              · rw [if_pos q3]
                have t4 := sk_tn (b := b) d1.1
                by_cases q4 : sk b tn (dg b tn 6 0 (sk b tn (G2 b tn).2.1)).2 < tn
                · rw [if_pos q4]
                  exact ⟨Or.inl rfl, t4, fun z => absurd z (by first | decide | exact n01)⟩
                · rw [if_neg q4]
                  exact ⟨Or.inr rfl, t4, fun _ => ⟨by show (dg b tn 6 0 (sk b tn (G2 b tn).2.1)).1 < _; omega, q0, q1, q2⟩⟩
              · rw [if_neg q3]
                exact ⟨Or.inl rfl, d1.1, fun z => absurd z (by first | decide | exact n01)⟩
            · rw [if_neg s2]
              exact ⟨Or.inl rfl, b2, fun z => absurd z (by first | decide | exact n01)⟩
          · rw [if_neg q2]
            exact ⟨Or.inl rfl, b2, fun z => absurd z (by first | decide | exact n01)⟩
        · rw [if_neg s1]
          exact ⟨Or.inl rfl, b1, fun z => absurd z (by first | decide | exact n01)⟩
      · rw [if_neg q1]
        exact ⟨Or.inl rfl, b1, fun z => absurd z (by first | decide | exact n01)⟩
    · rw [if_neg s0]
      exact ⟨Or.inl rfl, b0, fun z => absurd z (by first | decide | exact n01)⟩
  · rw [if_neg q0]
    exact ⟨Or.inl rfl, b0, fun z => absurd z (by first | decide | exact n01)⟩
def faultV (v : Nat × Nat × Nat) : Int32 := if v.1 = 1 then nM else nI v.2.1
def KY (b : Nat → Nat) (tn : Nat) (keys : Nat → Int64) : Prop := keys 0 = lN (k5 0 (G0 b tn).2.2.1 (G0 b tn).2.2.2.1 (G0 b tn).2.2.2.2) ∧ keys 1 = lN (k5 1 (G1 b tn).2.2.1 (G1 b tn).2.2.2.1 (G1 b tn).2.2.2.2) ∧ keys 2 = lN (k5 2 (G2 b tn).2.2.1 (G2 b tn).2.2.2.1 (G2 b tn).2.2.2.2)
theorem nz1 {r : Nat} (h : r = 0 ∨ r = 1) : ((nI r = nI 0) = (r = 0)) ∧ (r ≠ 0 → r = 1) := by
  rcases h with rfl | rfl
  · exact ⟨propext ⟨fun _ => rfl, fun _ => rfl⟩, fun z => absurd rfl z⟩
  · exact ⟨propext ⟨fun z => absurd z (by first | decide | exact n01), fun z => absurd z (by first | decide | exact n01)⟩, fun _ => rfl⟩
theorem s_readVariant1 {N : Nat} {c0 c1 c2 c3 c4 : Int32} {k : Int64} {keys : Nat → Int64} {Q : Int32 → Int32 → Int32 → Int64 → Int32 → Int32 → (Nat → Int64) → Prop} (hN : 1000 < N) (hb : ∀ j, b j < 128) (htn : tn ≤ 120)
    (hq : ∀ p u k m sz keys', ((vsW b tn).1 = 1 → sz = nI (vsW b tn).2.2 ∧ KY b tn keys') → Q (faultV (vsW b tn)) p u k m sz keys') : p_X1_readVariant N c0 c1 k c2 c3 c4 (nI tn) (tB b) keys Q := by
  obtain ⟨n, rfl⟩ : ∃ n, N = n + 1 + 1 + 1 + 1 := ⟨N - 4, by omega⟩
  have t0 := sk_tn (b := b) (tn := tn) (Nat.zero_le _)
  obtain ⟨a1, a2, a3⟩ := vr_out (b := b) (tn := tn) (l := 0) (by decide) (sk b tn 0)
  have b0 : (G0 b tn).2.1 ≤ tn := by unfold G0; omega
  unfold p_X1_readVariant
  simp (disch := omega) only [zl, nSm]
  refine s_skipSpaces hN hb htn (by omega) ?_
  unfold p_X1_readVariant_11
  simp (disch := omega) only [zl, nS]
  refine ⟨fun h => absurd h (by omega), fun _ => s_readKey hN hb htn (by omega) (by decide) (by decide) ?_⟩
  rw [if_pos rfl, show vr b tn 0 (sk b tn 0) = G0 b tn from rfl]
  rw [show vr b tn 0 (sk b tn 0) = G0 b tn from rfl] at a1
  unfold vsW vs0 at hq
  intro k0 m0 hk0
  rw [(nz1 a1).1]
  refine ⟨fun q0 => ⟨by decide, s_peek htn (show (G0 b tn).2.1 < 1000 by omega) ?_⟩, fun q0 => ?_⟩
  · have q0 : (G0 b tn).1 = 1 := (nz1 a1).2 q0
    rw [if_pos q0] at hq
    simp (disch := omega) only [tHS hb]
    refine ⟨fun s0 => s_skipSpaces hN hb htn (show (G0 b tn).2.1 < 500 by omega) ?_, fun s0 => ?_⟩
    · have s0 : tC b tn (G0 b tn).2.1 32 := s0
      rw [if_pos s0] at hq
      have t1 := sk_tn (b := b) b0
      obtain ⟨a4, a5, a6⟩ := vr_out (b := b) (tn := tn) (l := 1) (by decide) (sk b tn (G0 b tn).2.1)
      have b1 : (G1 b tn).2.1 ≤ tn := by unfold G1; omega
      unfold p_X1_readVariant_11
      simp (disch := omega) only [zl, nS]
      refine ⟨fun h => absurd h (by omega), fun _ => s_readKey hN hb htn (by omega) (by decide) (by decide) ?_⟩
      rw [if_pos rfl, show vr b tn 1 (sk b tn (G0 b tn).2.1) = G1 b tn from rfl]
      rw [show vr b tn 1 (sk b tn (G0 b tn).2.1) = G1 b tn from rfl] at a4
      rw [show vr b tn 1 (sk b tn (G0 b tn).2.1) = G1 b tn from rfl] at hq
      unfold vs1 at hq
      intro k1 m1 hk1
      rw [(nz1 a4).1]
      refine ⟨fun q1 => ⟨by decide, s_peek htn (show (G1 b tn).2.1 < 1000 by omega) ?_⟩, fun q1 => ?_⟩
      · have q1 : (G1 b tn).1 = 1 := (nz1 a4).2 q1
        rw [if_pos q1] at hq
        simp (disch := omega) only [tHS hb]
        refine ⟨fun s1 => s_skipSpaces hN hb htn (show (G1 b tn).2.1 < 500 by omega) ?_, fun s1 => ?_⟩
        · have s1 : tC b tn (G1 b tn).2.1 32 := s1
          rw [if_pos s1] at hq
          have t2 := sk_tn (b := b) b1
          obtain ⟨a7, a8, a9⟩ := vr_out (b := b) (tn := tn) (l := 2) (by decide) (sk b tn (G1 b tn).2.1)
          have b2 : (G2 b tn).2.1 ≤ tn := by unfold G2; omega
          unfold p_X1_readVariant_11
          simp (disch := omega) only [zl, nS]
          refine ⟨fun h => absurd h (by omega), fun _ => s_readKey hN hb htn (by omega) (by decide) (by decide) ?_⟩
          rw [if_pos rfl, show vr b tn 2 (sk b tn (G1 b tn).2.1) = G2 b tn from rfl]
          rw [show vr b tn 2 (sk b tn (G1 b tn).2.1) = G2 b tn from rfl] at a7
          rw [show vr b tn 2 (sk b tn (G1 b tn).2.1) = G2 b tn from rfl] at hq
          unfold vs2 at hq
          intro k2 m2 hk2
          rw [(nz1 a7).1]
          refine ⟨fun q2 => ⟨by decide, s_peek htn (show (G2 b tn).2.1 < 1000 by omega) ?_⟩, fun q2 => ?_⟩
          · have q2 : (G2 b tn).1 = 1 := (nz1 a7).2 q2
            rw [if_pos q2] at hq
            simp (disch := omega) only [tHS hb]
            refine ⟨fun s2 => s_skipSpaces hN hb htn (show (G2 b tn).2.1 < 500 by omega) ?_, fun s2 => ?_⟩
            · have s2 : tC b tn (G2 b tn).2.1 32 := s2
              rw [if_pos s2] at hq
              have t3 := sk_tn (b := b) b2
              have d1 := dgs (b := b) (r := 6) (x := 0) t3
              unfold p_X1_readVariant_11
              simp (disch := omega) only [zl, nS]
              refine ⟨fun _ => ?_, fun h => absurd (by omega) h⟩
              refine s_readNumber hN hb htn (by decide) (show sk b tn (G2 b tn).2.1 < 400 by omega) (fun q3 => ⟨fun _ => ?_, fun z => absurd z (by first | decide | exact n01)⟩) (fun q3 => ⟨fun z => absurd rfl z, fun _ => ?_⟩)
              · rw [if_pos q3] at hq
                have t4 := sk_tn (b := b) d1.1
                refine s_skipSpaces hN hb htn (by omega) (s_atEnd htn (by omega) (fun q4 => ⟨fun z => absurd z (by first | decide | exact n01), fun _ => ?_⟩) (fun q4 => ⟨fun _ => ?_, fun z => absurd rfl z⟩))
                · rw [if_neg q4] at hq
                  refine hq _ _ _ _ _ _ (fun _ => ⟨rfl, ?_, ?_, ?_⟩)
                  · show vp_updL (vp_updL (vp_updL keys 0 k0) (0 + 1) k1) (0 + 1 + 1) k2 0 = _
                    rw [updL_at, updL_at, updL_at, if_neg (by decide), if_neg (by decide), if_pos rfl]
                    exact (hk0 q0).1
                  · show vp_updL (vp_updL (vp_updL keys 0 k0) (0 + 1) k1) (0 + 1 + 1) k2 1 = _
                    rw [updL_at, updL_at, if_neg (by decide), if_pos rfl]
                    exact (hk1 q1).1
                  · show vp_updL (vp_updL (vp_updL keys 0 k0) (0 + 1) k1) (0 + 1 + 1) k2 2 = _
                    rw [updL_at, if_pos rfl]
                    exact (hk2 q2).1
                · rw [if_pos q4] at hq
                  exact hq _ _ _ _ _ _ (fun z => absurd z (by first | decide | exact n01))
              · rw [if_neg q3] at hq
                exact hq _ _ _ _ _ _ (fun z => absurd z (by first | decide | exact n01))
            · have s2 : ¬ tC b tn (G2 b tn).2.1 32 := s2
              rw [if_neg s2] at hq
              exact hq _ _ _ _ _ _ (fun z => absurd z (by first | decide | exact n01))
          · rw [if_neg (show ¬ (G2 b tn).1 = 1 from fun z => by have : (G2 b tn).1 = 0 := q2; omega)] at hq
            exact hq _ _ _ _ _ _ (fun z => absurd z (by first | decide | exact n01))
        · have s1 : ¬ tC b tn (G1 b tn).2.1 32 := s1
          rw [if_neg s1] at hq
          exact hq _ _ _ _ _ _ (fun z => absurd z (by first | decide | exact n01))
      · rw [if_neg (show ¬ (G1 b tn).1 = 1 from fun z => by have : (G1 b tn).1 = 0 := q1; omega)] at hq
        exact hq _ _ _ _ _ _ (fun z => absurd z (by first | decide | exact n01))
    · have s0 : ¬ tC b tn (G0 b tn).2.1 32 := s0
      rw [if_neg s0] at hq
      exact hq _ _ _ _ _ _ (fun z => absurd z (by first | decide | exact n01))
  · rw [if_neg (show ¬ (G0 b tn).1 = 1 from fun z => by have : (G0 b tn).1 = 0 := q0; omega)] at hq
    exact hq _ _ _ _ _ _ (fun z => absurd z (by first | decide | exact n01))
/-- the cells of the variant that was read -/
def VC (b : Nat → Nat) (tn : Nat) : Nat → Nat := fun j => if j = 0 then (G0 b tn).2.2.1 else if j = 1 then (G0 b tn).2.2.2.1 else if j = 2 then (G1 b tn).2.2.1 else if j = 3 then (G1 b tn).2.2.2.1 else if j = 4 then (G1 b tn).2.2.2.2 else if j = 5 then (G2 b tn).2.2.1 else 0
theorem VC_rd {rd0 rd1 rd2 rd3 : Nat → Int32} {x y z u v w : Nat} (h0 : RV (fun _ => 0) rd0) (h1 : rd1 = upd (upd rd0 0 (nI x)) (0 + 1) (nI y)) (h2 : RD rd1 2 z u v rd2) (h3 : rd3 = upd rd2 5 (nI w)) : RV (fun j => if j = 0 then x else if j = 1 then y else if j = 2 then z else if j = 3 then u else if j = 4 then v else if j = 5 then w else 0) rd3 := by
  intro j hj
  subst h3
  rw [upd_at, h2 j, h1, upd_at, upd_at, h0 j hj]
  by_cases q5 : j = 5
  · subst q5; rfl
  · by_cases q0 : j = 0
    · subst q0; rfl
    · by_cases q1 : j = 1
      · subst q1; rfl
      · by_cases q2 : j = 2
        · subst q2; rfl
        · by_cases q3 : j = 3
          · subst q3; rfl
          · by_cases q4 : j = 4
            · subst q4; rfl
            · rw [if_neg q5, if_neg q2, if_neg (show ¬ j = 2 + 1 by omega), if_neg (show ¬ j = 2 + 2 by omega), if_neg (show ¬ j = 0 + 1 by omega), if_neg q0]
              show nI 0 = nI (if j = 0 then x else if j = 1 then y else if j = 2 then z else if j = 3 then u else if j = 4 then v else if j = 5 then w else 0)
              rw [if_neg q0, if_neg q1, if_neg q2, if_neg q3, if_neg q4, if_neg q5]
end VV
/-! rows that are copied and shifted, cell by cell -/
def BL {α : Type} (f0 f2 : Nat → α) (o e : Nat) (f : Nat → α) : Prop := ∀ j, f j = if o ≤ j ∧ j < o + e then f2 (j - o) else f0 j
theorem BL_0 {α : Type} (f0 f2 : Nat → α) (o : Nat) : BL f0 f2 o 0 f0 := fun j => by rw [if_neg (by omega)]
theorem BL_s {α : Type} {f0 f2 : Nat → α} {o e : Nat} {f g : Nat → α} (h : BL f0 f2 o e f) (hg : ∀ j, g j = if j = o + e then f2 e else f j) : BL f0 f2 o (e + 1) g := by
  intro j
  rw [hg j, h j]
  by_cases q : j = o + e
  · rw [if_pos q, if_pos (by omega), show j - o = e by omega]
  · rw [if_neg q]
    by_cases q2 : o ≤ j ∧ j < o + e
    · rw [if_pos q2, if_pos (by omega)]
    · rw [if_neg q2, if_neg (by omega)]
def SH {α : Type} (f0 : Nat → α) (lo x d : Nat) (f : Nat → α) : Prop := ∀ j, f j = if lo ≤ j ∧ j < x then f0 (j + d) else f0 j
theorem SH_0 {α : Type} (f0 : Nat → α) (lo d : Nat) : SH f0 lo lo d f0 := fun j => by rw [if_neg (by omega)]
theorem SH_s {α : Type} {f0 : Nat → α} {lo x d : Nat} {f g : Nat → α} (h : SH f0 lo x d f) (hlo : lo ≤ x) (hg : ∀ j, g j = if j = x then f (x + d) else f j) : SH f0 lo (x + 1) d g := by
  intro j
  rw [hg j, h (x + d), h j]
  by_cases q : j = x
  · rw [if_pos q, if_neg (by omega), if_pos (by omega), q]
  · rw [if_neg q]
    by_cases q2 : lo ≤ j ∧ j < x
    · rw [if_pos q2, if_pos (by omega)]
    · rw [if_neg q2, if_neg (by omega)]
theorem s_rowOf {N l e : Nat} {Q : Int32 → Prop} (hq : Q (nI (l * 10 + e))) : p_X5_rowOf N (nI l) (nI e) Q := by
  unfold p_X5_rowOf
  simp only [zl, nS]
  exact hq
theorem s_slotOf {N s l : Nat} {Q : Int32 → Prop} (hq : Q (nI (s * 3 + l))) : p_X5_slotOf N (nI s) (nI l) Q := by
  unfold p_X5_slotOf
  simp only [zl, nS]
  exact hq
theorem s_putList_2 {N l en : Nat} {c0 c1 c2 c4 c5 : Int32} {c3 : Int64} {ln : Nat → Int32} {r2 : Nat → Int64} {n2 w2 : Nat → Int32} {K : Int32 → (Nat → Int64) → (Nat → Int32) → (Nat → Int32) → Prop} {r0 : Nat → Int64} {n0 w0 : Nat → Int32} (hl : l < 6) (he : en ≤ 10)
    (hk : ∀ x r m w, BL r0 r2 (l * 10) en r → BL n0 n2 (l * 10) en m → BL w0 w2 (l * 10) en w → K x r m w) : ∀ (n e : Nat) (r : Nat → Int64) (m w : Nat → Int32), e ≤ en → en - e < n → BL r0 r2 (l * 10) e r → BL n0 n2 (l * 10) e m → BL w0 w2 (l * 10) e w →
    p_X3_putList_2 N (nI l) c0 ln c1 c2 c3 c4 (nI en) c5 r2 n2 w2 K n (nI e) r m w := by
  intro n
  induction n with
  | zero => intro e r m w h1 h2; omega
  | succ n ih =>
    intro e r m w h1 h2 hr hm hw
    unfold p_X3_putList_2
    simp (disch := omega) only [zl, nS]
    refine ⟨fun h => ?_, fun h => s_rowOf ?_⟩
    · have : e = en := by omega
      subst this
      exact hk _ _ _ _ hr hm hw
    · simp (disch := omega) only [nS]
      refine ⟨by omega, by omega, by omega, by omega, by omega, by omega, ih (e + 1) _ _ _ (by omega) (by omega) (BL_s hr (fun j => rfl)) (BL_s hm (fun j => rfl)) (BL_s hw (fun j => rfl))⟩
theorem s_putList {N l en : Nat} {c0 c1 c2 c4 c5 : Int32} {c3 : Int64} {ln : Nat → Int32} {r0 r2 : Nat → Int64} {n0 n2 w0 w2 : Nat → Int32} {Q : Int32 → (Nat → Int64) → (Nat → Int32) → (Nat → Int32) → (Nat → Int32) → Prop} (hN : 1000 < N) (hl : l < 6) (he : en ≤ 10)
    (hq : ∀ r m w, BL r0 r2 (l * 10) en r → BL n0 n2 (l * 10) en m → BL w0 w2 (l * 10) en w → Q (nI en) r m w (upd ln l (nI en))) : p_X3_putList N c0 r0 n0 w0 ln c1 c2 c3 c4 (nI en) c5 r2 n2 w2 (nI l) Q := by
  unfold p_X3_putList
  simp (disch := omega) only [zl, nS]
  exact s_putList_2 hl he (fun x r m w hr hm hw => ⟨hl, hq r m w hr hm hw⟩) N 0 _ _ _ (by omega) (by omega) (BL_0 _ _ _) (BL_0 _ _ _) (BL_0 _ _ _)
theorem s_keyOf {N v i : Nat} {c0 : Int32} {keys : Nat → Int64} {Q : Int64 → Prop} (hv : v < 16) (hi : i < 3) (hq : Q (keys (v * 3 + i))) : p_X3_keyOf N c0 keys (nI v) (nI i) Q := by
  unfold p_X3_keyOf
  simp (disch := omega) only [zl, nS]
  exact ⟨by omega, hq⟩
theorem s_putVariant_13 {N v : Nat} {c0 c1 c2 c4 c5 c6 : Int32} {c3 : Int64} {sz ql : Nat → Int32} {k2 : Nat → Int64} {K : Int32 → (Nat → Int64) → Prop} {k0 : Nat → Int64} (hv : v < 16) (hk : ∀ x k, BL k0 k2 (v * 3) 3 k → K x k) : ∀ (n e : Nat) (k : Nat → Int64), e ≤ 3 → 3 - e < n → BL k0 k2 (v * 3) e k → p_X3_putVariant_13 N (nI v) c0 sz ql c1 c2 c3 c4 c5 c6 k2 K n (nI e) k := by
  intro n
  induction n with
  | zero => intro e k h1 h2; omega
  | succ n ih =>
    intro e k h1 h2 hr
    unfold p_X3_putVariant_13
    simp (disch := omega) only [zl, nS]
    refine ⟨fun h => ?_, fun h => ⟨by omega, by omega, ih (e + 1) _ (by omega) (by omega) (BL_s hr (fun j => rfl))⟩⟩
    have : e = 3 := by omega
    subst this
    exact hk _ _ hr
theorem s_putVariant {N v : Nat} {c1 c2 c4 c5 c6 : Int32} {c3 : Int64} {sz ql : Nat → Int32} {k0 k2 : Nat → Int64} {Q : Int32 → Int32 → (Nat → Int64) → (Nat → Int32) → (Nat → Int32) → Prop} (hN : 1000 < N) (hv : v < 16) (hq : ∀ k, BL k0 k2 (v * 3) 3 k → Q (nI v) (nI (v + 1)) k (upd sz v c6) (upd ql v (nI 1000))) : p_X3_putVariant N (nI v) k0 sz ql c1 c2 c3 c4 c5 c6 k2 Q := by
  unfold p_X3_putVariant
  simp (disch := omega) only [zl, nS]
  refine ⟨fun h => absurd h (by omega), fun _ => s_putVariant_13 hv (fun x k hk => ⟨hv, hv, hq k hk⟩) N 0 _ (by omega) (by omega) (BL_0 _ _ _)⟩
theorem s_dropVariant_14 {N x v : Nat} {c0 : Int32} {sz ql : Nat → Int32} {k0 : Nat → Int64} {lo : Nat} {K : Int32 → (Nat → Int64) → Prop} (hv : v + 1 < 16) (hlo : lo ≤ v * 3) (hk : ∀ x k, SH k0 lo (v * 3 + 3) 3 k → K x k) : ∀ (n e : Nat) (k : Nat → Int64), e ≤ 3 → 3 - e < n → SH k0 lo (v * 3 + e) 3 k → p_X3_dropVariant_14 N (nI x) (nI (v + 1)) c0 sz ql K n (nI e) k := by
  intro n
  induction n with
  | zero => intro e k h1 h2; omega
  | succ n ih =>
    intro e k h1 h2 hr
    unfold p_X3_dropVariant_14
    simp (disch := omega) only [zl, nS]
    refine ⟨fun h => ?_, fun h => ⟨by omega, by omega, ih (e + 1) _ (by omega) (by omega) (SH_s (x := v * 3 + e) hr (by omega) (fun j => ?_))⟩⟩
    · have : e = 3 := by omega
      subst this
      exact hk _ _ hr
    · rw [updL_at, show (v + 1 - 1) * 3 + e = v * 3 + e by omega, show (v + 1) * 3 + e = v * 3 + e + 3 by omega]
theorem s_dropVariant_4 {N x vn : Nat} {k0 : Nat → Int64} {s0 q0 : Nat → Int32} {K : Int32 → (Nat → Int64) → (Nat → Int32) → (Nat → Int32) → Prop} (hN : 1000 < N) (hn : vn ≤ 16) (hx : x < vn) (hk : ∀ y k s q, SH k0 (x * 3) ((vn - 1) * 3) 3 k → SH s0 x (vn - 1) 1 s → SH q0 x (vn - 1) 1 q → K y k s q) : ∀ (n v : Nat) (k : Nat → Int64) (s q : Nat → Int32), x ≤ v → v + 1 ≤ vn → vn - v < n → SH k0 (x * 3) (v * 3) 3 k → SH s0 x v 1 s → SH q0 x v 1 q → p_X3_dropVariant_4 N (nI x) (nI vn) K n (nI (v + 1)) k s q := by
  intro n
  induction n with
  | zero => intro v k s q h1 h2 h3; omega
  | succ n ih =>
    intro v k s q h1 h2 h3 hr hs hq
    unfold p_X3_dropVariant_4
    simp (disch := omega) only [zl, nS]
    refine ⟨fun h => ?_, fun h => ?_⟩
    · have : v = vn - 1 := by omega
      subst this
      exact hk _ _ _ _ hr hs hq
    · refine s_dropVariant_14 (k0 := k0) (lo := x * 3) (by omega) (by omega) (fun y k' hk' => ⟨by omega, by omega, by omega, by omega, ?_⟩) N 0 _ (by omega) (by omega) hr
      refine ih (v + 1) _ _ _ (by omega) (by omega) (by omega) ?_ (SH_s hs h1 (fun j => rfl)) (SH_s hq h1 (fun j => rfl))
      rw [show (v + 1) * 3 = v * 3 + 3 by omega]
      exact hk'
theorem s_dropVariant {N x vn : Nat} {k0 : Nat → Int64} {s0 q0 : Nat → Int32} {Q : Int32 → Int32 → (Nat → Int64) → (Nat → Int32) → (Nat → Int32) → Prop} (hN : 1000 < N) (hn : vn ≤ 16) (hx : x < vn) (hq : ∀ k s q, SH k0 (x * 3) ((vn - 1) * 3) 3 k → SH s0 x (vn - 1) 1 s → SH q0 x (vn - 1) 1 q → Q (nI (vn - 1)) (nI (vn - 1)) k s q) : p_X3_dropVariant N (nI vn) k0 s0 q0 (nI x) Q := by
  unfold p_X3_dropVariant
  simp (disch := omega) only [zl, nS]
  exact s_dropVariant_4 hN hn hx (fun _ k s q h1 h2 h3 => hq k s q h1 h2 h3) N x _ _ _ (by omega) (by omega) (by omega) (SH_0 _ _ _) (SH_0 _ _ _) (SH_0 _ _ _)
theorem s_hasVariant {N vn : Nat} {x : Int32} {Q : Int32 → Prop} (hn : vn ≤ 16) (h1 : ∀ v, v < vn → x = nI v → Q (nI 1)) (h0 : (∀ v, v < vn → x ≠ nI v) → Q (nI 0)) : p_X3_hasVariant N (nI vn) x Q := by
  unfold p_X3_hasVariant
  simp only [zl]
  have e : x.toInt < 0 ∨ ∃ v, v < 2147483648 ∧ x = nI v := by
    by_cases q : x.toInt < 0
    · exact Or.inl q
    · refine Or.inr ⟨x.toInt.toNat, ?_, ?_⟩
      · have := x.toInt_lt; omega
      · exact Int32.toInt_inj.mp (by rw [nI_t (by have := x.toInt_lt; omega)]; omega)
  rcases e with e | ⟨v, hv, rfl⟩
  · refine ⟨fun _ => h0 (fun v hv q => ?_), fun h => absurd (by rw [Int32.lt_iff_toInt_lt, nI_t (by decide)]; omega) h⟩
    rw [q, nI_t (by omega)] at e
    omega
  · simp (disch := omega) only [nS]
    refine ⟨fun h => absurd h (by omega), fun _ => ⟨fun h => h0 (fun w hw q => ?_), fun h => h1 v (by omega) rfl⟩⟩
    rw [show (nI v = nI w) = (v = w) from nS.2.2.2.2.2.2.2.2.2.1 v w hv (by omega)] at q
    omega
theorem s_dropEntry_4 {N l x ln : Nat} {c0 : Int32} {lg : Nat → Int32} {x2 : Int32} {r0 : Nat → Int64} {n0 w0 : Nat → Int32} {K : Int32 → (Nat → Int64) → (Nat → Int32) → (Nat → Int32) → Prop} (hl : l < 6) (hln : ln ≤ 10) (hg : lg l = nI ln) (hx : x < ln)
    (hk : ∀ y r m w, SH r0 (l * 10 + x) (l * 10 + (ln - 1)) 1 r → SH n0 (l * 10 + x) (l * 10 + (ln - 1)) 1 m → SH w0 (l * 10 + x) (l * 10 + (ln - 1)) 1 w → K y r m w) : ∀ (n e : Nat) (r : Nat → Int64) (m w : Nat → Int32), x ≤ e → e + 1 ≤ ln → ln - e < n → SH r0 (l * 10 + x) (l * 10 + e) 1 r → SH n0 (l * 10 + x) (l * 10 + e) 1 m → SH w0 (l * 10 + x) (l * 10 + e) 1 w → p_X3_dropEntry_4 N (nI l) x2 c0 lg K n (nI (e + 1)) r m w := by
  intro n
  induction n with
  | zero => intro e r m w h1 h2 h3; omega
  | succ n ih =>
    intro e r m w h1 h2 h3 hr hm hw
    unfold p_X3_dropEntry_4
    simp (disch := omega) only [zl, nS]
    rw [hg]
    simp (disch := omega) only [nS]
    refine ⟨hl, fun h => ?_, fun h => s_rowOf ?_⟩
    · have : e = ln - 1 := by omega
      subst this
      exact hk _ _ _ _ hr hm hw
    · simp (disch := omega) only [nS]
      rw [show l * 10 + (e + 1) - 1 = l * 10 + e by omega]
      refine ⟨by omega, by omega, by omega, by omega, by omega, by omega, ih (e + 1) _ _ _ (by omega) (by omega) (by omega) (SH_s (x := l * 10 + e) hr (by omega) (fun j => rfl)) (SH_s (x := l * 10 + e) hm (by omega) (fun j => rfl)) (SH_s (x := l * 10 + e) hw (by omega) (fun j => rfl))⟩
theorem s_dropEntry {N l x ln : Nat} {c0 : Int32} {lg : Nat → Int32} {r0 : Nat → Int64} {n0 w0 : Nat → Int32} {Q : Int32 → (Nat → Int32) → (Nat → Int64) → (Nat → Int32) → (Nat → Int32) → Prop} (hN : 1000 < N) (hl : l < 6) (hln : ln ≤ 10) (hg : lg l = nI ln) (hx : x < ln)
    (hq : ∀ r m w, SH r0 (l * 10 + x) (l * 10 + (ln - 1)) 1 r → SH n0 (l * 10 + x) (l * 10 + (ln - 1)) 1 m → SH w0 (l * 10 + x) (l * 10 + (ln - 1)) 1 w → Q (nI (ln - 1)) (upd lg l (nI (ln - 1))) r m w) : p_X3_dropEntry N c0 lg r0 n0 w0 (nI l) (nI x) Q := by
  unfold p_X3_dropEntry
  simp (disch := omega) only [zl, nS]
  rw [hg]
  simp (disch := omega) only [nS]
  refine s_dropEntry_4 hl hln hg hx (fun y r m w h1 h2 h3 => ⟨hl, hl, hl, ?_⟩) N x _ _ _ (by omega) (by omega) (by omega) (SH_0 _ _ _) (SH_0 _ _ _) (SH_0 _ _ _)
  have := hq r m w h1 h2 h3
  rw [upd_at, if_pos rfl]
  exact this
/-- two stretches of e cells exchanged -/
def EX {α : Type} (f0 : Nat → α) (o p e : Nat) (f : Nat → α) : Prop := ∀ j, f j = if o ≤ j ∧ j < o + e then f0 (j - o + p) else if p ≤ j ∧ j < p + e then f0 (j - p + o) else f0 j
theorem EX_0 {α : Type} (f0 : Nat → α) (o p : Nat) : EX f0 o p 0 f0 := fun j => by rw [if_neg (by omega), if_neg (by omega)]
theorem EX_s {α : Type} {f0 : Nat → α} {o p e : Nat} {f g : Nat → α} (h : EX f0 o p e f) (hop : o + e < p) (hg : ∀ j, g j = if j = p + e then f (o + e) else if j = o + e then f (p + e) else f j) : EX f0 o p (e + 1) g := by
  intro j
  rw [hg j, h (o + e), h (p + e), h j]
  by_cases q : j = p + e
  · rw [if_pos q, if_neg (by omega), if_neg (by omega), if_neg (by omega), if_pos (by omega), show j - p + o = o + e by omega]
  · rw [if_neg q]
    by_cases q1 : j = o + e
    · rw [if_pos q1, if_neg (by omega), if_neg (by omega), if_pos (by omega), show j - o + p = p + e by omega]
    · rw [if_neg q1]
      by_cases q2 : o ≤ j ∧ j < o + e
      · rw [if_pos q2, if_pos (by omega)]
      · rw [if_neg q2, if_neg (show ¬ (o ≤ j ∧ j < o + (e + 1)) by omega)]
        by_cases q3 : p ≤ j ∧ j < p + e
        · rw [if_pos q3, if_pos (by omega)]
        · rw [if_neg q3, if_neg (by omega)]
theorem s_exchangeLists_29 {N a c : Nat} {x3 c0 : Int32} {lg : Nat → Int32} {r0 : Nat → Int64} {n0 w0 : Nat → Int32} {K : Int32 → (Nat → Int64) → (Nat → Int32) → (Nat → Int32) → Prop} (ha : a < c) (hc : c < 6) (hk : ∀ y r m w, EX r0 (a * 10) (c * 10) 10 r → EX n0 (a * 10) (c * 10) 10 m → EX w0 (a * 10) (c * 10) 10 w → K y r m w) : ∀ (n e : Nat) (r : Nat → Int64) (m w : Nat → Int32), e ≤ 10 → 10 - e < n → EX r0 (a * 10) (c * 10) e r → EX n0 (a * 10) (c * 10) e m → EX w0 (a * 10) (c * 10) e w → p_X3_exchangeLists_29 N (nI a) (nI c) x3 c0 lg K n (nI e) r m w := by
  intro n
  induction n with
  | zero => intro e r m w h1 h2; omega
  | succ n ih =>
    intro e r m w h1 h2 hr hm hw
    unfold p_X3_exchangeLists_29
    simp (disch := omega) only [zl, nS]
    refine ⟨fun h => ?_, fun h => s_rowOf (s_rowOf ?_)⟩
    · have : e = 10 := by omega
      subst this
      exact hk _ _ _ _ hr hm hw
    · unfold p_X3_exchangeRows
      simp (disch := omega) only [nS]
      refine ⟨by omega, by omega, by omega, by omega, by omega, by omega, by omega, by omega, by omega, by omega, by omega, by omega, ih (e + 1) _ _ _ (by omega) (by omega) (EX_s hr (by omega) (fun j => rfl)) (EX_s hm (by omega) (fun j => rfl)) (EX_s hw (by omega) (fun j => rfl))⟩
/-! the reference's -/
/-! the state: M is the reference's row of 378 cells, in naturals; the class's Stand holds the same -/
def RM (M : Nat → Nat) (m : Nat → Int32) : Prop := ∀ j, j < 378 → m j = nI (M j)
def KV (M : Nat → Nat) (keys : Nat → Int64) : Prop := ∀ v, v < M 0 → keys (v * 3) = lN (k5 0 (M (10 + 8 * v)) (M (10 + 8 * v + 1)) 0) ∧ keys (v * 3 + 1) = lN (k5 1 (M (10 + 8 * v + 2)) (M (10 + 8 * v + 3)) (M (10 + 8 * v + 4))) ∧ keys (v * 3 + 2) = lN (k5 2 (M (10 + 8 * v + 5)) 0 0)
def SZ (M : Nat → Nat) (sizes : Nat → Int32) : Prop := ∀ v, v < M 0 → sizes v = nI (M (10 + 8 * v + 6))
def QL (M : Nat → Nat) (qs : Nat → Int32) : Prop := ∀ v, v < M 0 → qs v = nI (M (10 + 8 * v + 7))
def LN (M : Nat → Nat) (lengths : Nat → Int32) : Prop := ∀ l, l < 6 → lengths l = nI (M (4 + l))
def ec (l e : Nat) : Nat := 138 + 40 * l + 4 * e
def RA (M : Nat → Nat) (ranges : Nat → Int64) : Prop := ∀ l, l < 6 → ∀ e, e < M (4 + l) → ranges (l * 10 + e) = lN (k5 (l % 3) (M (ec l e)) (M (ec l e + 1)) (M (ec l e + 2)))
def NA (M : Nat → Nat) (names : Nat → Int32) : Prop := ∀ l, l < 6 → ∀ e, e < M (4 + l) → names (l * 10 + e) = nI (cn (M (ec l e)) (M (ec l e + 1)) (M (ec l e + 2)))
def WA (M : Nat → Nat) (weights : Nat → Int32) : Prop := ∀ l, l < 6 → ∀ e, e < M (4 + l) → weights (l * 10 + e) = nI (M (ec l e + 3))
def TI (M : Nat → Nat) (ties : Nat → Int32) : Prop := ∀ i, i < 3 → ties i = nI (M (1 + i))
/-- the Stand's nine -/
def ST (M : Nat → Nat) (vn : Int32) (keys : Nat → Int64) (sizes qs lengths : Nat → Int32) (ranges : Nat → Int64) (names weights ties : Nat → Int32) : Prop := vn = nI (M 0) ∧ KV M keys ∧ SZ M sizes ∧ QL M qs ∧ LN M lengths ∧ RA M ranges ∧ NA M names ∧ WA M weights ∧ TI M ties
def okv (M : Nat → Nat) (v : Nat) : Prop := okV 0 (M (10 + 8 * v)) (M (10 + 8 * v + 1)) 0 ∧ okV 1 (M (10 + 8 * v + 2)) (M (10 + 8 * v + 3)) (M (10 + 8 * v + 4)) ∧ okV 2 (M (10 + 8 * v + 5)) 0 0 ∧ M (10 + 8 * v + 6) < 1000000 ∧ M (10 + 8 * v + 7) ≤ 1000
def oke (M : Nat → Nat) (l e : Nat) : Prop := okR (l % 3) (M (ec l e)) (M (ec l e + 1)) (M (ec l e + 2)) ∧ M (ec l e + 3) ≤ 1000
def WF (M : Nat → Nat) : Prop := M 0 ≤ 16 ∧ (∀ l, l < 6 → M (4 + l) ≤ 10) ∧ (∀ i, i < 3 → M (1 + i) ≤ 5) ∧ (∀ v, v < M 0 → okv M v) ∧ (∀ l, l < 6 → ∀ e, e < M (4 + l) → oke M l e)
/-! the next states -/
def setL (M : Nat → Nat) (l n : Nat) (V : Nat → Nat) : Nat → Nat := fun j => if j = 4 + l then n else if 138 + 40 * l ≤ j ∧ j < 138 + 40 * l + 40 then V (j - (138 + 40 * l)) else M j
def addV (M : Nat → Nat) (V : Nat → Nat) (sz : Nat) : Nat → Nat := fun j => if j = 0 then M 0 + 1 else if j = 10 + 8 * M 0 + 7 then 1000 else if j = 10 + 8 * M 0 + 6 then sz else if 10 + 8 * M 0 ≤ j ∧ j < 10 + 8 * M 0 + 6 then V (j - (10 + 8 * M 0)) else M j
def remV (M : Nat → Nat) (x : Nat) : Nat → Nat := fun j => if j = 0 then M 0 - 1 else if 10 + 8 * x ≤ j ∧ j < 10 + 8 * (M 0 - 1) then M (j + 8) else M j
def setC (M : Nat → Nat) (i x : Nat) : Nat → Nat := fun j => if j = i then x else M j
def remE (M : Nat → Nat) (l e : Nat) : Nat → Nat := fun j => if j = 4 + l then M (4 + l) - 1 else if ec l e ≤ j ∧ j < ec l (M (4 + l) - 1) then M (j + 4) else M j
def swpS (M : Nat → Nat) : Nat → Nat := fun j => if 4 ≤ j ∧ j < 7 then M (j + 3) else if 7 ≤ j ∧ j < 10 then M (j - 3) else if 138 ≤ j ∧ j < 258 then M (j + 120) else if 258 ≤ j ∧ j < 378 then M (j - 120) else M j
def setT (M : Nat → Nat) (a b c : Nat) : Nat → Nat := fun j => if j = 1 then a else if j = 2 then b else if j = 3 then c else M j
/-- the cells outside of lists -/
theorem ec_eq (l e : Nat) : ec l e = 138 + 40 * l + 4 * e := rfl
/-! taking a list -/
theorem setL_o {M V : Nat → Nat} {l n j : Nat} (hl : l < 6) (h : j ≠ 4 + l) (h2 : j < 138 + 40 * l ∨ 138 + 40 * l + 40 ≤ j) : setL M l n V j = M j := by
  unfold setL
  rw [if_neg h, if_neg (by omega)]
theorem setL_n {M V : Nat → Nat} {l n : Nat} : setL M l n V (4 + l) = n := if_pos rfl
theorem setL_i {M V : Nat → Nat} {l n j : Nat} (hl : l < 6) (hj : j < 40) : setL M l n V (138 + 40 * l + j) = V j := by
  unfold setL
  rw [if_neg (by omega), if_pos (by omega), Nat.add_sub_cancel_left]
theorem setL_WF {M V : Nat → Nat} {l n : Nat} (h : WF M) (hl : l < 6) (hn : n ≤ 10) (hV : LV (l % 3) n V) : WF (setL M l n V) := by
  obtain ⟨h0, h1, h2, h3, h4⟩ := h
  refine ⟨?_, fun k hk => ?_, fun i hi => ?_, fun v hv => ?_, fun k hk e he => ?_⟩
  · rw [setL_o hl (by omega) (by omega)]; exact h0
  · by_cases q : k = l
    · subst q; rw [setL_n]; exact hn
    · rw [setL_o hl (by omega) (by omega)]; exact h1 k hk
  · rw [setL_o hl (by omega) (by omega)]; exact h2 i hi
  · rw [setL_o hl (by omega) (by omega)] at hv
    have := h3 v hv
    unfold okv at this ⊢
    simp (disch := omega) only [setL_o]
    exact this
  · by_cases q : k = l
    · subst q
      rw [setL_n] at he
      have := hV.1 e he
      unfold oke
      have e0 : ∀ i, i < 4 → setL M k n V (ec k e + i) = V (4 * e + i) := fun i hi => by rw [ec_eq, Nat.add_assoc]; exact setL_i hl (by omega)
      have e00 : setL M k n V (ec k e) = V (4 * e) := e0 0 (by omega)
      rw [e00, e0 1 (by omega), e0 2 (by omega), e0 3 (by omega)]
      exact this
    · rw [setL_o hl (by omega) (by omega)] at he
      have h1k := h1 k hk
      have := h4 k hk e he
      unfold oke ec at this ⊢
      simp (disch := omega) only [setL_o]
      exact this
theorem setL_ST {M V : Nat → Nat} {l n : Nat} {vn : Int32} {keys : Nat → Int64} {sizes qs lengths : Nat → Int32} {ranges r2 r : Nat → Int64} {names weights ties n2 w2 m w : Nat → Int32} (hW : WF M) (h : ST M vn keys sizes qs lengths ranges names weights ties) (hl : l < 6) (hn : n ≤ 10) (hR : LR (l % 3) n V r2 n2 w2)
    (hr : BL ranges r2 (l * 10) n r) (hm : BL names n2 (l * 10) n m) (hw : BL weights w2 (l * 10) n w) : ST (setL M l n V) vn keys sizes qs (upd lengths l (nI n)) r m w ties := by
  obtain ⟨a0, a1, a2, a3, a4, a5, a6, a7, a8⟩ := h
  have e0 : ∀ i, i < 4 → ∀ e, e < n → setL M l n V (ec l e + i) = V (4 * e + i) := fun i hi e he => by rw [ec_eq, Nat.add_assoc]; exact setL_i hl (by omega)
  have e00 : ∀ e, e < n → setL M l n V (ec l e) = V (4 * e) := fun e he => e0 0 (by omega) e he
  refine ⟨?_, fun v hv => ?_, fun v hv => ?_, fun v hv => ?_, fun k hk => ?_, fun k hk e he => ?_, fun k hk e he => ?_, fun k hk e he => ?_, fun i hi => ?_⟩
  · rw [setL_o hl (by omega) (by omega)]; exact a0
  · rw [setL_o hl (by omega) (by omega)] at hv
    have := hW.1
    simp (disch := omega) only [setL_o]
    exact a1 v hv
  · rw [setL_o hl (by omega) (by omega)] at hv
    have := hW.1
    simp (disch := omega) only [setL_o]
    exact a2 v hv
  · rw [setL_o hl (by omega) (by omega)] at hv
    have := hW.1
    simp (disch := omega) only [setL_o]
    exact a3 v hv
  · rw [upd_at]
    by_cases q : k = l
    · subst q; rw [if_pos rfl, setL_n]
    · rw [if_neg q, setL_o hl (by omega) (by omega)]; exact a4 k hk
  · rw [hr]
    by_cases q : k = l
    · subst q
      rw [setL_n] at he
      rw [if_pos (by omega), Nat.add_sub_cancel_left, e00 e he, e0 1 (by omega) e he, e0 2 (by omega) e he]
      exact (hR e he).1
    · rw [setL_o hl (by omega) (by omega)] at he
      have := hW.2.1 k hk
      have h5 := a5 k hk e he
      unfold ec at h5 ⊢
      rw [if_neg (by omega)]
      simp (disch := omega) only [setL_o]
      exact h5
  · rw [hm]
    by_cases q : k = l
    · subst q
      rw [setL_n] at he
      rw [if_pos (by omega), Nat.add_sub_cancel_left, e00 e he, e0 1 (by omega) e he, e0 2 (by omega) e he]
      exact (hR e he).2.1
    · rw [setL_o hl (by omega) (by omega)] at he
      have := hW.2.1 k hk
      have h5 := a6 k hk e he
      unfold ec at h5 ⊢
      rw [if_neg (by omega)]
      simp (disch := omega) only [setL_o]
      exact h5
  · rw [hw]
    by_cases q : k = l
    · subst q
      rw [setL_n] at he
      rw [if_pos (by omega), Nat.add_sub_cancel_left, e0 3 (by omega) e he]
      exact (hR e he).2.2
    · rw [setL_o hl (by omega) (by omega)] at he
      have := hW.2.1 k hk
      have h5 := a7 k hk e he
      unfold ec at h5 ⊢
      rw [if_neg (by omega)]
      simp (disch := omega) only [setL_o]
      exact h5
  · rw [setL_o hl (by omega) (by omega)]; exact a8 i hi
theorem setL_RM {M V : Nat → Nat} {l n : Nat} {m m' rd : Nat → Int32} (h : RM M m) (hl : l < 6) (hV : RV V rd) (hm : BL (upd m (4 + l) (nI n)) rd (138 + 40 * l) 40 m') : RM (setL M l n V) m' := by
  intro j hj
  rw [hm j]
  unfold setL
  by_cases q : 138 + 40 * l ≤ j ∧ j < 138 + 40 * l + 40
  · rw [if_pos q, if_neg (by omega), if_pos q]
    exact hV _ (by omega)
  · rw [if_neg q, if_neg q, upd_at]
    by_cases q2 : j = 4 + l
    · rw [if_pos q2, if_pos q2]
    · rw [if_neg q2, if_neg q2]; exact h j hj
/-! adding a variant -/
theorem addV_o {M V : Nat → Nat} {sz j : Nat} (h : j ≠ 0) (h2 : j < 10 + 8 * M 0 ∨ 10 + 8 * M 0 + 8 ≤ j) : addV M V sz j = M j := by
  unfold addV
  rw [if_neg h, if_neg (by omega), if_neg (by omega), if_neg (by omega)]
theorem addV_0 {M V : Nat → Nat} {sz : Nat} : addV M V sz 0 = M 0 + 1 := if_pos rfl
theorem addV_i {M V : Nat → Nat} {sz i : Nat} (hi : i < 6) : addV M V sz (10 + 8 * M 0 + i) = V i := by
  unfold addV
  rw [if_neg (by omega), if_neg (by omega), if_neg (by omega), if_pos (by omega), Nat.add_sub_cancel_left]
theorem addV_6 {M V : Nat → Nat} {sz : Nat} : addV M V sz (10 + 8 * M 0 + 6) = sz := by
  unfold addV
  rw [if_neg (by omega), if_neg (by omega), if_pos rfl]
theorem addV_7 {M V : Nat → Nat} {sz : Nat} : addV M V sz (10 + 8 * M 0 + 7) = 1000 := by
  unfold addV
  rw [if_neg (by omega), if_pos rfl]
theorem addV_WF {M V : Nat → Nat} {sz : Nat} (h : WF M) (h16 : M 0 < 16) (hs : sz < 1000000) (hV : okV 0 (V 0) (V 1) 0 ∧ okV 1 (V 2) (V 3) (V 4) ∧ okV 2 (V 5) 0 0) : WF (addV M V sz) := by
  obtain ⟨h0, h1, h2, h3, h4⟩ := h
  refine ⟨?_, fun k hk => ?_, fun i hi => ?_, fun v hv => ?_, fun k hk e he => ?_⟩
  · rw [addV_0]; omega
  · rw [addV_o (by omega) (by omega)]; exact h1 k hk
  · rw [addV_o (by omega) (by omega)]; exact h2 i hi
  · rw [addV_0] at hv
    by_cases q : v = M 0
    · subst q
      unfold okv
      have e0 : addV M V sz (10 + 8 * M 0) = V 0 := addV_i (i := 0) (by decide)
      rw [e0, addV_i (by decide), addV_i (by decide), addV_i (by decide), addV_i (by decide), addV_i (by decide), addV_6, addV_7]
      exact ⟨hV.1, hV.2.1, hV.2.2, hs, Nat.le_refl _⟩
    · have := h3 v (by omega)
      unfold okv at this ⊢
      simp (disch := omega) only [addV_o]
      exact this
  · rw [addV_o (by omega) (by omega)] at he
    have := h4 k hk e he
    unfold oke ec at this ⊢
    simp (disch := omega) only [addV_o]
    exact this
theorem addV_ST {M V : Nat → Nat} {sz : Nat} {keys k2 k : Nat → Int64} {sizes qs lengths : Nat → Int32} {ranges : Nat → Int64} {names weights ties : Nat → Int32} (hW : WF M) (h : ST M (nI (M 0)) keys sizes qs lengths ranges names weights ties) (h16 : M 0 < 16)
    (hk2 : k2 0 = lN (k5 0 (V 0) (V 1) 0) ∧ k2 1 = lN (k5 1 (V 2) (V 3) (V 4)) ∧ k2 2 = lN (k5 2 (V 5) 0 0)) (hk : BL keys k2 (M 0 * 3) 3 k) : ST (addV M V sz) (nI (M 0 + 1)) k (upd sizes (M 0) (nI sz)) (upd qs (M 0) (nI 1000)) lengths ranges names weights ties := by
  obtain ⟨a0, a1, a2, a3, a4, a5, a6, a7, a8⟩ := h
  refine ⟨by rw [addV_0], fun v hv => ?_, fun v hv => ?_, fun v hv => ?_, fun l hl => ?_, fun l hl e he => ?_, fun l hl e he => ?_, fun l hl e he => ?_, fun i hi => ?_⟩
  · rw [addV_0] at hv
    rw [hk, hk, hk]
    by_cases q : v = M 0
    · subst q
      have e0 : addV M V sz (10 + 8 * M 0) = V 0 := addV_i (i := 0) (by decide)
      rw [e0, addV_i (by decide), addV_i (by decide), addV_i (by decide), addV_i (by decide), addV_i (by decide), if_pos (by omega), if_pos (by omega), if_pos (by omega), Nat.sub_self, Nat.add_sub_cancel_left, Nat.add_sub_cancel_left]
      exact hk2
    · rw [if_neg (by omega), if_neg (by omega), if_neg (by omega)]
      simp (disch := omega) only [addV_o]
      exact a1 v (by omega)
  · rw [addV_0] at hv
    rw [upd_at]
    by_cases q : v = M 0
    · subst q; rw [if_pos rfl, addV_6]
    · rw [if_neg q]
      simp (disch := omega) only [addV_o]
      exact a2 v (by omega)
  · rw [addV_0] at hv
    rw [upd_at]
    by_cases q : v = M 0
    · subst q; rw [if_pos rfl, addV_7]
    · rw [if_neg q]
      simp (disch := omega) only [addV_o]
      exact a3 v (by omega)
  · rw [addV_o (by omega) (by omega)]; exact a4 l hl
  · rw [addV_o (by omega) (by omega)] at he
    have h5 := a5 l hl e he
    unfold ec at h5 ⊢
    simp (disch := omega) only [addV_o]
    exact h5
  · rw [addV_o (by omega) (by omega)] at he
    have h5 := a6 l hl e he
    unfold ec at h5 ⊢
    simp (disch := omega) only [addV_o]
    exact h5
  · rw [addV_o (by omega) (by omega)] at he
    have h5 := a7 l hl e he
    unfold ec at h5 ⊢
    simp (disch := omega) only [addV_o]
    exact h5
  · rw [addV_o (by omega) (by omega)]; exact a8 i hi
theorem addV_RM {M V : Nat → Nat} {sz : Nat} {m m' rd : Nat → Int32} (h : RM M m) (h16 : M 0 < 16) (hV : RV V rd) (hm : BL m rd (10 + 8 * M 0) 6 m') : RM (addV M V sz) (upd (upd (upd m' (10 + 8 * M 0 + 6) (nI sz)) (10 + 8 * M 0 + 7) (nI 1000)) 0 (nI (M 0 + 1))) := by
  intro j hj
  rw [upd_at, upd_at, upd_at, hm j]
  unfold addV
  by_cases q0 : j = 0
  · rw [if_pos q0, if_pos q0]
  · rw [if_neg q0, if_neg q0]
    by_cases q1 : j = 10 + 8 * M 0 + 7
    · rw [if_pos q1, if_pos q1]
    · rw [if_neg q1, if_neg q1]
      by_cases q2 : j = 10 + 8 * M 0 + 6
      · rw [if_pos q2, if_pos q2]
      · rw [if_neg q2, if_neg q2]
        by_cases q3 : 10 + 8 * M 0 ≤ j ∧ j < 10 + 8 * M 0 + 6
        · rw [if_pos q3, if_pos q3]; exact hV _ (by omega)
        · rw [if_neg q3, if_neg q3]; exact h j hj
/-! dropping a variant -/
theorem remV_o {M : Nat → Nat} {x j : Nat} (h : j ≠ 0) (h2 : j < 10 + 8 * x ∨ 10 + 8 * (M 0 - 1) ≤ j) : remV M x j = M j := by
  unfold remV
  rw [if_neg h, if_neg (by omega)]
theorem remV_0 {M : Nat → Nat} {x : Nat} : remV M x 0 = M 0 - 1 := if_pos rfl
theorem remV_i {M : Nat → Nat} {x j : Nat} (h : 10 + 8 * x ≤ j) (h2 : j < 10 + 8 * (M 0 - 1)) : remV M x j = M (j + 8) := by
  unfold remV
  rw [if_neg (by omega), if_pos ⟨h, h2⟩]
theorem remV_WF {M : Nat → Nat} {x : Nat} (h : WF M) (hx : x < M 0) : WF (remV M x) := by
  obtain ⟨h0, h1, h2, h3, h4⟩ := h
  refine ⟨?_, fun k hk => ?_, fun i hi => ?_, fun v hv => ?_, fun k hk e he => ?_⟩
  · rw [remV_0]; omega
  · rw [remV_o (by omega) (by omega)]; exact h1 k hk
  · rw [remV_o (by omega) (by omega)]; exact h2 i hi
  · rw [remV_0] at hv
    by_cases q : v < x
    · have := h3 v (by omega)
      unfold okv at this ⊢
      simp (disch := omega) only [remV_o]
      exact this
    · have := h3 (v + 1) (by omega)
      unfold okv at this ⊢
      simp (disch := omega) only [remV_i]
      rw [show 10 + 8 * v + 8 = 10 + 8 * (v + 1) by omega, show ∀ i, 10 + 8 * v + i + 8 = 10 + 8 * (v + 1) + i from fun i => by omega, show ∀ i, 10 + 8 * v + i + 8 = 10 + 8 * (v + 1) + i from fun i => by omega, show ∀ i, 10 + 8 * v + i + 8 = 10 + 8 * (v + 1) + i from fun i => by omega, show ∀ i, 10 + 8 * v + i + 8 = 10 + 8 * (v + 1) + i from fun i => by omega, show ∀ i, 10 + 8 * v + i + 8 = 10 + 8 * (v + 1) + i from fun i => by omega, show ∀ i, 10 + 8 * v + i + 8 = 10 + 8 * (v + 1) + i from fun i => by omega, show ∀ i, 10 + 8 * v + i + 8 = 10 + 8 * (v + 1) + i from fun i => by omega]
      exact this
  · rw [remV_o (by omega) (by omega)] at he
    have := h4 k hk e he
    unfold oke ec at this ⊢
    simp (disch := omega) only [remV_o]
    exact this
theorem remV_ST {M : Nat → Nat} {x : Nat} {keys k : Nat → Int64} {sizes s qs q lengths : Nat → Int32} {ranges : Nat → Int64} {names weights ties : Nat → Int32} (hW : WF M) (h : ST M (nI (M 0)) keys sizes qs lengths ranges names weights ties) (hx : x < M 0)
    (hk : SH keys (x * 3) ((M 0 - 1) * 3) 3 k) (hs : SH sizes x (M 0 - 1) 1 s) (hq : SH qs x (M 0 - 1) 1 q) : ST (remV M x) (nI (M 0 - 1)) k s q lengths ranges names weights ties := by
  obtain ⟨a0, a1, a2, a3, a4, a5, a6, a7, a8⟩ := h
  have hs8 : ∀ v i, 10 + 8 * v + i + 8 = 10 + 8 * (v + 1) + i := fun v i => by omega
  refine ⟨by rw [remV_0], fun v hv => ?_, fun v hv => ?_, fun v hv => ?_, fun l hl => ?_, fun l hl e he => ?_, fun l hl e he => ?_, fun l hl e he => ?_, fun i hi => ?_⟩
  · rw [remV_0] at hv
    rw [hk, hk, hk]
    by_cases p : v < x
    · rw [if_neg (by omega), if_neg (by omega), if_neg (by omega)]
      simp (disch := omega) only [remV_o]
      exact a1 v (by omega)
    · rw [if_pos (by omega), if_pos (by omega), if_pos (by omega)]
      simp (disch := omega) only [remV_i, hs8]
      rw [show 10 + 8 * v + 8 = 10 + 8 * (v + 1) by omega, show v * 3 + 3 = (v + 1) * 3 by omega, show v * 3 + 1 + 3 = (v + 1) * 3 + 1 by omega, show v * 3 + 2 + 3 = (v + 1) * 3 + 2 by omega]
      exact a1 (v + 1) (by omega)
  · rw [remV_0] at hv
    rw [hs]
    by_cases p : v < x
    · rw [if_neg (by omega)]
      simp (disch := omega) only [remV_o]
      exact a2 v (by omega)
    · rw [if_pos (by omega)]
      simp (disch := omega) only [remV_i, hs8]
      exact a2 (v + 1) (by omega)
  · rw [remV_0] at hv
    rw [hq]
    by_cases p : v < x
    · rw [if_neg (by omega)]
      simp (disch := omega) only [remV_o]
      exact a3 v (by omega)
    · rw [if_pos (by omega)]
      simp (disch := omega) only [remV_i, hs8]
      exact a3 (v + 1) (by omega)
  · have := hW.1
    rw [remV_o (by omega) (by omega)]; exact a4 l hl
  · have := hW.1
    rw [remV_o (by omega) (by omega)] at he
    have h5 := a5 l hl e he
    unfold ec at h5 ⊢
    simp (disch := omega) only [remV_o]
    exact h5
  · have := hW.1
    rw [remV_o (by omega) (by omega)] at he
    have h5 := a6 l hl e he
    unfold ec at h5 ⊢
    simp (disch := omega) only [remV_o]
    exact h5
  · have := hW.1
    rw [remV_o (by omega) (by omega)] at he
    have h5 := a7 l hl e he
    unfold ec at h5 ⊢
    simp (disch := omega) only [remV_o]
    exact h5
  · have := hW.1
    rw [remV_o (by omega) (by omega)]; exact a8 i hi
theorem remV_RM {M : Nat → Nat} {x : Nat} {m m' : Nat → Int32} (h : RM M m) (h16 : M 0 ≤ 16) (hx : x < M 0) (hm : SH (upd m 0 (nI (M 0 - 1))) (10 + 8 * x) (10 + 8 * (M 0 - 1)) 8 m') : RM (remV M x) m' := by
  intro j hj
  rw [hm j]
  unfold remV
  by_cases q : 10 + 8 * x ≤ j ∧ j < 10 + 8 * (M 0 - 1)
  · rw [if_pos q, if_neg (by omega), if_pos q, upd_at, if_neg (by omega)]
    exact h _ (by omega)
  · rw [if_neg q, if_neg q, upd_at]
    by_cases q2 : j = 0
    · rw [if_pos q2, if_pos q2]
    · rw [if_neg q2, if_neg q2]; exact h j hj
/-! setting one cell -/
theorem setC_o {M : Nat → Nat} {i x j : Nat} (h : j ≠ i) : setC M i x j = M j := if_neg h
theorem setC_i {M : Nat → Nat} {i x : Nat} : setC M i x i = x := if_pos rfl
theorem setC_RM {M : Nat → Nat} {i x : Nat} {m : Nat → Int32} (h : RM M m) : RM (setC M i x) (upd m i (nI x)) := by
  intro j hj
  rw [upd_at]
  unfold setC
  by_cases q : j = i
  · rw [if_pos q, if_pos q]
  · rw [if_neg q, if_neg q]; exact h j hj
theorem setQ_WF {M : Nat → Nat} {v x : Nat} (h : WF M) (hv : v < M 0) (hx : x ≤ 1000) : WF (setC M (10 + 8 * v + 7) x) := by
  obtain ⟨h0, h1, h2, h3, h4⟩ := h
  refine ⟨?_, fun k hk => ?_, fun i hi => ?_, fun w hw => ?_, fun k hk e he => ?_⟩
  · rw [setC_o (by omega)]; exact h0
  · rw [setC_o (by omega)]; exact h1 k hk
  · rw [setC_o (by omega)]; exact h2 i hi
  · rw [setC_o (by omega)] at hw
    have := h3 w hw
    unfold okv at this ⊢
    by_cases q : w = v
    · subst q
      rw [setC_i]
      simp (disch := omega) only [setC_o]
      exact ⟨this.1, this.2.1, this.2.2.1, this.2.2.2.1, hx⟩
    · simp (disch := omega) only [setC_o]
      exact this
  · rw [setC_o (by omega)] at he
    have := h4 k hk e he
    unfold oke ec at this ⊢
    simp (disch := omega) only [setC_o]
    exact this
theorem setS_WF {M : Nat → Nat} {v x : Nat} (h : WF M) (hv : v < M 0) (hx : x < 1000000) : WF (setC M (10 + 8 * v + 6) x) := by
  obtain ⟨h0, h1, h2, h3, h4⟩ := h
  refine ⟨?_, fun k hk => ?_, fun i hi => ?_, fun w hw => ?_, fun k hk e he => ?_⟩
  · rw [setC_o (by omega)]; exact h0
  · rw [setC_o (by omega)]; exact h1 k hk
  · rw [setC_o (by omega)]; exact h2 i hi
  · rw [setC_o (by omega)] at hw
    have := h3 w hw
    unfold okv at this ⊢
    by_cases q : w = v
    · subst q
      rw [setC_i]
      simp (disch := omega) only [setC_o]
      exact ⟨this.1, this.2.1, this.2.2.1, hx, this.2.2.2.2⟩
    · simp (disch := omega) only [setC_o]
      exact this
  · rw [setC_o (by omega)] at he
    have := h4 k hk e he
    unfold oke ec at this ⊢
    simp (disch := omega) only [setC_o]
    exact this
theorem setW_WF {M : Nat → Nat} {l e x : Nat} (h : WF M) (hl : l < 6) (he : e < M (4 + l)) (hx : x ≤ 1000) : WF (setC M (ec l e + 3) x) := by
  obtain ⟨h0, h1, h2, h3, h4⟩ := h
  have hn := h1 l hl
  unfold ec
  refine ⟨?_, fun k hk => ?_, fun i hi => ?_, fun w hw => ?_, fun k hk f hf => ?_⟩
  · rw [setC_o (by omega)]; exact h0
  · rw [setC_o (by omega)]; exact h1 k hk
  · rw [setC_o (by omega)]; exact h2 i hi
  · rw [setC_o (by omega)] at hw
    have := h3 w hw
    unfold okv at this ⊢
    simp (disch := omega) only [setC_o]
    exact this
  · rw [setC_o (by omega)] at hf
    have hn2 := h1 k hk
    have := h4 k hk f hf
    unfold oke ec at this ⊢
    by_cases q : k = l ∧ f = e
    · obtain ⟨rfl, rfl⟩ := q
      rw [setC_i]
      simp (disch := omega) only [setC_o]
      exact ⟨this.1, hx⟩
    · simp (disch := omega) only [setC_o]
      exact this
theorem setQ_ST {M : Nat → Nat} {v x : Nat} {vn : Int32} {keys : Nat → Int64} {sizes qs lengths : Nat → Int32} {ranges : Nat → Int64} {names weights ties : Nat → Int32} (hW : WF M) (h : ST M vn keys sizes qs lengths ranges names weights ties) (hv : v < M 0) : ST (setC M (10 + 8 * v + 7) x) vn keys sizes (upd qs v (nI x)) lengths ranges names weights ties := by
  obtain ⟨a0, a1, a2, a3, a4, a5, a6, a7, a8⟩ := h
  have h16 := hW.1
  refine ⟨?_, fun w hw => ?_, fun w hw => ?_, fun w hw => ?_, fun k hk => ?_, fun k hk e he => ?_, fun k hk e he => ?_, fun k hk e he => ?_, fun i hi => ?_⟩
  · rw [setC_o (by omega)]; exact a0
  · rw [setC_o (by omega)] at hw
    simp (disch := omega) only [setC_o]
    exact a1 w hw
  · rw [setC_o (by omega)] at hw
    simp (disch := omega) only [setC_o]
    exact a2 w hw
  · rw [setC_o (by omega)] at hw
    rw [upd_at]
    by_cases q : w = v
    · subst q; rw [if_pos rfl, setC_i]
    · rw [if_neg q, setC_o (by omega)]; exact a3 w hw
  · rw [setC_o (by omega)]; exact a4 k hk
  · rw [setC_o (by omega)] at he
    have h5 := a5 k hk e he
    unfold ec at h5 ⊢
    simp (disch := omega) only [setC_o]
    exact h5
  · rw [setC_o (by omega)] at he
    have h5 := a6 k hk e he
    unfold ec at h5 ⊢
    simp (disch := omega) only [setC_o]
    exact h5
  · rw [setC_o (by omega)] at he
    have h5 := a7 k hk e he
    unfold ec at h5 ⊢
    simp (disch := omega) only [setC_o]
    exact h5
  · rw [setC_o (by omega)]; exact a8 i hi
theorem setS_ST {M : Nat → Nat} {v x : Nat} {vn : Int32} {keys : Nat → Int64} {sizes qs lengths : Nat → Int32} {ranges : Nat → Int64} {names weights ties : Nat → Int32} (hW : WF M) (h : ST M vn keys sizes qs lengths ranges names weights ties) (hv : v < M 0) : ST (setC M (10 + 8 * v + 6) x) vn keys (upd sizes v (nI x)) qs lengths ranges names weights ties := by
  obtain ⟨a0, a1, a2, a3, a4, a5, a6, a7, a8⟩ := h
  have h16 := hW.1
  refine ⟨?_, fun w hw => ?_, fun w hw => ?_, fun w hw => ?_, fun k hk => ?_, fun k hk e he => ?_, fun k hk e he => ?_, fun k hk e he => ?_, fun i hi => ?_⟩
  · rw [setC_o (by omega)]; exact a0
  · rw [setC_o (by omega)] at hw
    simp (disch := omega) only [setC_o]
    exact a1 w hw
  · rw [setC_o (by omega)] at hw
    rw [upd_at]
    by_cases q : w = v
    · subst q; rw [if_pos rfl, setC_i]
    · rw [if_neg q, setC_o (by omega)]; exact a2 w hw
  · rw [setC_o (by omega)] at hw
    simp (disch := omega) only [setC_o]
    exact a3 w hw
  · rw [setC_o (by omega)]; exact a4 k hk
  · rw [setC_o (by omega)] at he
    have h5 := a5 k hk e he
    unfold ec at h5 ⊢
    simp (disch := omega) only [setC_o]
    exact h5
  · rw [setC_o (by omega)] at he
    have h5 := a6 k hk e he
    unfold ec at h5 ⊢
    simp (disch := omega) only [setC_o]
    exact h5
  · rw [setC_o (by omega)] at he
    have h5 := a7 k hk e he
    unfold ec at h5 ⊢
    simp (disch := omega) only [setC_o]
    exact h5
  · rw [setC_o (by omega)]; exact a8 i hi
theorem setW_ST {M : Nat → Nat} {l e x : Nat} {vn : Int32} {keys : Nat → Int64} {sizes qs lengths : Nat → Int32} {ranges : Nat → Int64} {names weights ties : Nat → Int32} (hW : WF M) (h : ST M vn keys sizes qs lengths ranges names weights ties) (hl : l < 6) (he : e < M (4 + l)) : ST (setC M (ec l e + 3) x) vn keys sizes qs lengths ranges names (upd weights (l * 10 + e) (nI x)) ties := by
  obtain ⟨a0, a1, a2, a3, a4, a5, a6, a7, a8⟩ := h
  have h16 := hW.1
  have hn := hW.2.1 l hl
  unfold ec
  refine ⟨?_, fun w hw => ?_, fun w hw => ?_, fun w hw => ?_, fun k hk => ?_, fun k hk f hf => ?_, fun k hk f hf => ?_, fun k hk f hf => ?_, fun i hi => ?_⟩
  · rw [setC_o (by omega)]; exact a0
  · rw [setC_o (by omega)] at hw
    simp (disch := omega) only [setC_o]
    exact a1 w hw
  · rw [setC_o (by omega)] at hw
    simp (disch := omega) only [setC_o]
    exact a2 w hw
  · rw [setC_o (by omega)] at hw
    simp (disch := omega) only [setC_o]
    exact a3 w hw
  · rw [setC_o (by omega)]; exact a4 k hk
  · rw [setC_o (by omega)] at hf
    have hn2 := hW.2.1 k hk
    have h5 := a5 k hk f hf
    unfold ec at h5 ⊢
    simp (disch := omega) only [setC_o]
    exact h5
  · rw [setC_o (by omega)] at hf
    have hn2 := hW.2.1 k hk
    have h5 := a6 k hk f hf
    unfold ec at h5 ⊢
    simp (disch := omega) only [setC_o]
    exact h5
  · rw [setC_o (by omega)] at hf
    have hn2 := hW.2.1 k hk
    have h5 := a7 k hk f hf
    rw [upd_at]
    unfold ec at h5 ⊢
    by_cases q : k = l ∧ f = e
    · obtain ⟨rfl, rfl⟩ := q
      rw [if_pos rfl, setC_i]
    · rw [if_neg (by omega), setC_o (by omega)]
      exact h5
  · rw [setC_o (by omega)]; exact a8 i hi
/-! the ties -/
theorem setT_o {M : Nat → Nat} {a b c j : Nat} (h : j = 0 ∨ 4 ≤ j) : setT M a b c j = M j := by
  unfold setT
  rw [if_neg (by omega), if_neg (by omega), if_neg (by omega)]
theorem setT_i {M : Nat → Nat} {a b c : Nat} : setT M a b c 1 = a ∧ setT M a b c 2 = b ∧ setT M a b c 3 = c := ⟨rfl, rfl, rfl⟩
theorem setT_RM {M : Nat → Nat} {a b c : Nat} {m : Nat → Int32} (h : RM M m) : RM (setT M a b c) (upd (upd (upd m 1 (nI a)) 2 (nI b)) 3 (nI c)) := by
  intro j hj
  rw [upd_at, upd_at, upd_at]
  unfold setT
  by_cases q3 : j = 3
  · subst q3; rfl
  · by_cases q2 : j = 2
    · subst q2; rfl
    · by_cases q1 : j = 1
      · subst q1; rfl
      · rw [if_neg q3, if_neg q2, if_neg q1, if_neg q1, if_neg q2, if_neg q3]; exact h j hj
theorem setT_WF {M : Nat → Nat} {a b c : Nat} (h : WF M) (ha : a ≤ 5) (hb : b ≤ 5) (hc : c ≤ 5) : WF (setT M a b c) := by
  obtain ⟨h0, h1, h2, h3, h4⟩ := h
  refine ⟨?_, fun k hk => ?_, fun i hi => ?_, fun w hw => ?_, fun k hk e he => ?_⟩
  · rw [setT_o (by omega)]; exact h0
  · rw [setT_o (by omega)]; exact h1 k hk
  · rcases (show i = 0 ∨ i = 1 ∨ i = 2 by omega) with rfl | rfl | rfl
    · exact ha
    · exact hb
    · exact hc
  · rw [setT_o (by omega)] at hw
    have := h3 w hw
    unfold okv at this ⊢
    simp (disch := omega) only [setT_o]
    exact this
  · rw [setT_o (by omega)] at he
    have := h4 k hk e he
    unfold oke ec at this ⊢
    simp (disch := omega) only [setT_o]
    exact this
theorem setT_ST {M : Nat → Nat} {a b c : Nat} {vn : Int32} {keys : Nat → Int64} {sizes qs lengths : Nat → Int32} {ranges : Nat → Int64} {names weights ties : Nat → Int32} (h : ST M vn keys sizes qs lengths ranges names weights ties) : ST (setT M a b c) vn keys sizes qs lengths ranges names weights (upd (upd (upd ties 0 (nI a)) 1 (nI b)) 2 (nI c)) := by
  obtain ⟨a0, a1, a2, a3, a4, a5, a6, a7, a8⟩ := h
  refine ⟨?_, fun w hw => ?_, fun w hw => ?_, fun w hw => ?_, fun k hk => ?_, fun k hk e he => ?_, fun k hk e he => ?_, fun k hk e he => ?_, fun i hi => ?_⟩
  · rw [setT_o (by omega)]; exact a0
  · rw [setT_o (by omega)] at hw
    simp (disch := omega) only [setT_o]
    exact a1 w hw
  · rw [setT_o (by omega)] at hw
    simp (disch := omega) only [setT_o]
    exact a2 w hw
  · rw [setT_o (by omega)] at hw
    simp (disch := omega) only [setT_o]
    exact a3 w hw
  · rw [setT_o (by omega)]; exact a4 k hk
  · rw [setT_o (by omega)] at he
    have h5 := a5 k hk e he
    unfold ec at h5 ⊢
    simp (disch := omega) only [setT_o]
    exact h5
  · rw [setT_o (by omega)] at he
    have h5 := a6 k hk e he
    unfold ec at h5 ⊢
    simp (disch := omega) only [setT_o]
    exact h5
  · rw [setT_o (by omega)] at he
    have h5 := a7 k hk e he
    unfold ec at h5 ⊢
    simp (disch := omega) only [setT_o]
    exact h5
  · rcases (show i = 0 ∨ i = 1 ∨ i = 2 by omega) with rfl | rfl | rfl <;> rfl
/-! dropping an entry -/
theorem remE_o {M : Nat → Nat} {l e j : Nat} (h : j ≠ 4 + l) (h2 : j < ec l e ∨ ec l (M (4 + l) - 1) ≤ j) : remE M l e j = M j := by
  unfold remE
  rw [if_neg h, if_neg (by omega)]
theorem remE_n {M : Nat → Nat} {l e : Nat} : remE M l e (4 + l) = M (4 + l) - 1 := if_pos rfl
theorem remE_i {M : Nat → Nat} {l e j : Nat} (hl : l < 6) (h : ec l e ≤ j) (h2 : j < ec l (M (4 + l) - 1)) : remE M l e j = M (j + 4) := by
  unfold remE
  rw [if_neg (by unfold ec at h; omega), if_pos ⟨h, h2⟩]
theorem remE_RM {M : Nat → Nat} {l e : Nat} {m m' : Nat → Int32} (h : RM M m) (hl : l < 6) (hn : M (4 + l) ≤ 10) (he : e < M (4 + l)) (hm : SH (upd m (4 + l) (nI (M (4 + l) - 1))) (138 + 40 * l + 4 * e) (138 + 40 * l + 4 * (M (4 + l) - 1)) 4 m') : RM (remE M l e) m' := by
  intro j hj
  rw [hm j]
  unfold remE ec
  by_cases q : 138 + 40 * l + 4 * e ≤ j ∧ j < 138 + 40 * l + 4 * (M (4 + l) - 1)
  · rw [if_pos q, if_neg (by omega), if_pos q, upd_at, if_neg (by omega)]
    exact h _ (by omega)
  · rw [if_neg q, if_neg q, upd_at]
    by_cases q2 : j = 4 + l
    · rw [if_pos q2, if_pos q2]
    · rw [if_neg q2, if_neg q2]; exact h j hj
theorem remE_e {M : Nat → Nat} {l e k f i : Nat} (hl : l < 6) (hk : k < 6) (hn : M (4 + l) ≤ 10) (hn2 : M (4 + k) ≤ 10) (he : e < M (4 + l)) (hf : f < remE M l e (4 + k)) (hi : i < 4) : remE M l e (ec k f + i) = if k = l ∧ e ≤ f then M (ec k (f + 1) + i) else M (ec k f + i) := by
  by_cases q : k = l
  · subst q
    rw [remE_n] at hf
    by_cases q2 : e ≤ f
    · rw [if_pos ⟨rfl, q2⟩, remE_i hl (by unfold ec; omega) (by unfold ec; omega), show ec k f + i + 4 = ec k (f + 1) + i by unfold ec; omega]
    · rw [if_neg (by omega), remE_o (by unfold ec; omega) (by unfold ec; omega)]
  · rw [remE_o (by omega) (by unfold ec; omega)] at hf
    rw [if_neg (by omega), remE_o (by unfold ec; omega) (by unfold ec; omega)]
theorem remE_WF {M : Nat → Nat} {l e : Nat} (h : WF M) (hl : l < 6) (he : e < M (4 + l)) : WF (remE M l e) := by
  obtain ⟨h0, h1, h2, h3, h4⟩ := h
  have hn := h1 l hl
  refine ⟨?_, fun k hk => ?_, fun i hi => ?_, fun w hw => ?_, fun k hk f hf => ?_⟩
  · rw [remE_o (by omega) (by unfold ec; omega)]; exact h0
  · by_cases q : k = l
    · subst q; rw [remE_n]; omega
    · rw [remE_o (by omega) (by unfold ec; omega)]; exact h1 k hk
  · rw [remE_o (by omega) (by unfold ec; omega)]; exact h2 i hi
  · rw [remE_o (by omega) (by unfold ec; omega)] at hw
    have := h3 w hw
    unfold okv at this ⊢
    have hh : ∀ j, j < 138 → 10 ≤ j → remE M l e j = M j := fun j hj hj2 => remE_o (by omega) (by unfold ec; omega)
    simp (disch := omega) only [hh]
    exact this
  · have ee := fun i hi => remE_e (i := i) hl hk hn (h1 k hk) he hf hi
    have e0 : remE M l e (ec k f) = _ := ee 0 (by omega)
    unfold oke
    rw [e0, ee 1 (by omega), ee 2 (by omega), ee 3 (by omega)]
    by_cases q : k = l
    · subst q
      rw [remE_n] at hf
      by_cases q2 : e ≤ f
      · simp only [q2, and_self, if_true]
        exact h4 k hk (f + 1) (by omega)
      · simp only [q2, and_false, if_false]
        exact h4 k hk f (by omega)
    · rw [remE_o (by omega) (by unfold ec; omega)] at hf
      simp only [q, false_and, if_false]
      exact h4 k hk f hf
theorem remE_ST {M : Nat → Nat} {l e : Nat} {vn : Int32} {keys : Nat → Int64} {sizes qs lengths : Nat → Int32} {ranges r : Nat → Int64} {names weights m w ties : Nat → Int32} (hW : WF M) (h : ST M vn keys sizes qs lengths ranges names weights ties) (hl : l < 6) (he : e < M (4 + l))
    (hr : SH ranges (l * 10 + e) (l * 10 + (M (4 + l) - 1)) 1 r) (hm : SH names (l * 10 + e) (l * 10 + (M (4 + l) - 1)) 1 m) (hw : SH weights (l * 10 + e) (l * 10 + (M (4 + l) - 1)) 1 w) : ST (remE M l e) vn keys sizes qs (upd lengths l (nI (M (4 + l) - 1))) r m w ties := by
  obtain ⟨a0, a1, a2, a3, a4, a5, a6, a7, a8⟩ := h
  have h16 := hW.1
  have hn := hW.2.1 l hl
  have hh : ∀ j, j < 138 → j ≠ 4 + l → remE M l e j = M j := fun j hj hj2 => remE_o hj2 (by unfold ec; omega)
  refine ⟨?_, fun v hv => ?_, fun v hv => ?_, fun v hv => ?_, fun k hk => ?_, fun k hk f hf => ?_, fun k hk f hf => ?_, fun k hk f hf => ?_, fun i hi => ?_⟩
  · rw [hh _ (by omega) (by omega)]; exact a0
  · rw [hh _ (by omega) (by omega)] at hv
    simp (disch := omega) only [hh]
    exact a1 v hv
  · rw [hh _ (by omega) (by omega)] at hv
    simp (disch := omega) only [hh]
    exact a2 v hv
  · rw [hh _ (by omega) (by omega)] at hv
    simp (disch := omega) only [hh]
    exact a3 v hv
  · rw [upd_at]
    by_cases q : k = l
    · subst q; rw [if_pos rfl, remE_n]
    · rw [if_neg q, hh _ (by omega) (by omega)]; exact a4 k hk
  · have hn2 := hW.2.1 k hk
    have ee := fun i hi => remE_e (i := i) hl hk hn hn2 he hf hi
    have e0 : remE M l e (ec k f) = _ := ee 0 (by omega)
    rw [e0, ee 1 (by omega), ee 2 (by omega), hr]
    by_cases q : k = l
    · subst q
      rw [remE_n] at hf
      by_cases q2 : e ≤ f
      · rw [if_pos (by omega)]
        simp only [q2, and_self, if_true]
        exact a5 k hk (f + 1) (by omega)
      · rw [if_neg (by omega)]
        simp only [q2, and_false, if_false]
        exact a5 k hk f (by omega)
    · rw [hh _ (by omega) (by omega)] at hf
      rw [if_neg (by omega)]
      simp only [q, false_and, if_false]
      exact a5 k hk f hf
  · have hn2 := hW.2.1 k hk
    have ee := fun i hi => remE_e (i := i) hl hk hn hn2 he hf hi
    have e0 : remE M l e (ec k f) = _ := ee 0 (by omega)
    rw [e0, ee 1 (by omega), ee 2 (by omega), hm]
    by_cases q : k = l
    · subst q
      rw [remE_n] at hf
      by_cases q2 : e ≤ f
      · rw [if_pos (by omega)]
        simp only [q2, and_self, if_true]
        exact a6 k hk (f + 1) (by omega)
      · rw [if_neg (by omega)]
        simp only [q2, and_false, if_false]
        exact a6 k hk f (by omega)
    · rw [hh _ (by omega) (by omega)] at hf
      rw [if_neg (by omega)]
      simp only [q, false_and, if_false]
      exact a6 k hk f hf
  · have hn2 := hW.2.1 k hk
    have ee := fun i hi => remE_e (i := i) hl hk hn hn2 he hf hi
    rw [ee 3 (by omega), hw]
    by_cases q : k = l
    · subst q
      rw [remE_n] at hf
      by_cases q2 : e ≤ f
      · rw [if_pos (by omega)]
        simp only [q2, and_self, if_true]
        exact a7 k hk (f + 1) (by omega)
      · rw [if_neg (by omega)]
        simp only [q2, and_false, if_false]
        exact a7 k hk f (by omega)
    · rw [hh _ (by omega) (by omega)] at hf
      rw [if_neg (by omega)]
      simp only [q, false_and, if_false]
      exact a7 k hk f hf
  · rw [hh _ (by omega) (by omega)]; exact a8 i hi
/-! the pages for undo -/
theorem cpy_at {α : Type} {f g : Nat → α} {n k : Nat} (h : k < n) : va_cpy f g 0 0 n k = f k := by
  unfold va_cpy
  rw [if_pos ⟨Nat.zero_le _, by omega⟩, Nat.zero_add, Nat.sub_zero]
theorem cpy_ST {M : Nat → Nat} {va : Int32} {ka ra : Nat → Int64} {sa qa la na wa ta : Nat → Int32} {kb rb : Nat → Int64} {sb qb lb nb wb tb : Nat → Int32} (hW : WF M) (h : ST M va ka sa qa la ra na wa ta) : ST M va (va_cpy ka kb 0 0 48) (va_cpy sa sb 0 0 16) (va_cpy qa qb 0 0 16) (va_cpy la lb 0 0 6) (va_cpy ra rb 0 0 60) (va_cpy na nb 0 0 60) (va_cpy wa wb 0 0 60) (va_cpy ta tb 0 0 3) := by
  obtain ⟨a0, a1, a2, a3, a4, a5, a6, a7, a8⟩ := h
  have h16 := hW.1
  refine ⟨a0, fun v hv => ?_, fun v hv => ?_, fun v hv => ?_, fun i hi => ?_, fun i hi e he => ?_, fun i hi e he => ?_, fun i hi e he => ?_, fun i hi => ?_⟩
  · rw [cpy_at (by omega), cpy_at (by omega), cpy_at (by omega)]; exact a1 v hv
  · rw [cpy_at (by omega)]; exact a2 v hv
  · rw [cpy_at (by omega)]; exact a3 v hv
  · rw [cpy_at (by omega)]; exact a4 i hi
  · have := hW.2.1 i hi
    rw [cpy_at (by omega)]; exact a5 i hi e he
  · have := hW.2.1 i hi
    rw [cpy_at (by omega)]; exact a6 i hi e he
  · have := hW.2.1 i hi
    rw [cpy_at (by omega)]; exact a7 i hi e he
  · rw [cpy_at (by omega)]; exact a8 i hi
theorem s_copyFrom {N : Nat} {M : Nat → Nat} {va : Int32} {ka ra : Nat → Int64} {sa qa la na wa ta : Nat → Int32} {vb : Int32} {kb rb : Nat → Int64} {sb qb lb nb wb tb : Nat → Int32} {Q : Int32 → (Nat → Int64) → (Nat → Int32) → (Nat → Int32) → (Nat → Int32) → (Nat → Int64) → (Nat → Int32) → (Nat → Int32) → (Nat → Int32) → Prop} (hW : WF M) (h : ST M va ka sa qa la ra na wa ta) (hq : ∀ (vc : Int32) (kc : Nat → Int64) (sc qc lc : Nat → Int32) (rc : Nat → Int64) (nc wc tc : Nat → Int32), ST M vc kc sc qc lc rc nc wc tc → Q vc kc sc qc lc rc nc wc tc) : p_X3_copyFrom N vb kb sb qb lb rb nb wb tb va ka sa qa la ra na wa ta Q := by
  unfold p_X3_copyFrom
  simp (disch := omega) only [zl, nS]
  exact hq _ _ _ _ _ _ _ _ _ (cpy_ST hW h)
/-- the class's pages hold the states SV 0 ... SV (c - 1) -/
def IK (c : Nat) (SV : Nat → Nat → Nat) (v0 : Int32) (k0 : Nat → Int64) (s0 q0 l0 : Nat → Int32) (r0 : Nat → Int64) (n0 w0 t0 : Nat → Int32) (v1 : Int32) (k1 : Nat → Int64) (s1 q1 l1 : Nat → Int32) (r1 : Nat → Int64) (n1 w1 t1 : Nat → Int32) (v2 : Int32) (k2 : Nat → Int64) (s2 q2 l2 : Nat → Int32) (r2 : Nat → Int64) (n2 w2 t2 : Nat → Int32) (v3 : Int32) (k3 : Nat → Int64) (s3 q3 l3 : Nat → Int32) (r3 : Nat → Int64) (n3 w3 t3 : Nat → Int32) : Prop := (0 < c → ST (SV 0) v0 k0 s0 q0 l0 r0 n0 w0 t0) ∧ (1 < c → ST (SV 1) v1 k1 s1 q1 l1 r1 n1 w1 t1) ∧ (2 < c → ST (SV 2) v2 k2 s2 q2 l2 r2 n2 w2 t2) ∧ (3 < c → ST (SV 3) v3 k3 s3 q3 l3 r3 n3 w3 t3)
def cx (c : Nat) : Nat := if c < 4 then c + 1 else 4
def nx (c : Nat) (SV : Nat → Nat → Nat) (M : Nat → Nat) : Nat → Nat → Nat := fun p => if c < 4 then (if p = c then M else SV p) else (if p = 3 then M else SV (p + 1))
def KS (c : Nat) (SV : Nat → Nat → Nat) (saved : Nat → Int32) : Prop := ∀ p, p < c → ∀ j, j < 378 → saved (378 * p + j) = nI (SV p j)
def KW (c : Nat) (SV : Nat → Nat → Nat) : Prop := ∀ p, p < c → WF (SV p)
theorem cx_le {c : Nat} (h : c ≤ 4) : cx c ≤ 4 := by unfold cx; split <;> omega
theorem nx_KW {c : Nat} {SV : Nat → Nat → Nat} {M : Nat → Nat} (h : KW c SV) (hc : c ≤ 4) (hW : WF M) : KW (cx c) (nx c SV M) := by
  intro p hp
  unfold nx
  unfold cx at hp
  by_cases q : c < 4
  · rw [if_pos q] at hp ⊢
    by_cases q2 : p = c
    · rw [if_pos q2]; exact hW
    · rw [if_neg q2]; exact h p (by omega)
  · rw [if_neg q] at hp ⊢
    by_cases q2 : p = 3
    · rw [if_pos q2]; exact hW
    · rw [if_neg q2]; exact h (p + 1) (by omega)
theorem s_save {N c : Nat} {SV : Nat → Nat → Nat} {M : Nat → Nat} {st : Int32} {v0 : Int32} {k0 r0 : Nat → Int64} {s0 q0 l0 n0 w0 t0 : Nat → Int32} {v1 : Int32} {k1 r1 : Nat → Int64} {s1 q1 l1 n1 w1 t1 : Nat → Int32} {v2 : Int32} {k2 r2 : Nat → Int64} {s2 q2 l2 n2 w2 t2 : Nat → Int32} {v3 : Int32} {k3 r3 : Nat → Int64} {s3 q3 l3 n3 w3 t3 : Nat → Int32} {va : Int32} {ka ra : Nat → Int64} {sa qa la na wa ta : Nat → Int32} {Q : Int32 → Int32 → Int32 → (Nat → Int64) → (Nat → Int32) → (Nat → Int32) → (Nat → Int32) → (Nat → Int64) → (Nat → Int32) → (Nat → Int32) → (Nat → Int32) → Int32 → (Nat → Int64) → (Nat → Int32) → (Nat → Int32) → (Nat → Int32) → (Nat → Int64) → (Nat → Int32) → (Nat → Int32) → (Nat → Int32) → Int32 → (Nat → Int64) → (Nat → Int32) → (Nat → Int32) → (Nat → Int32) → (Nat → Int64) → (Nat → Int32) → (Nat → Int32) → (Nat → Int32) → Int32 → (Nat → Int64) → (Nat → Int32) → (Nat → Int32) → (Nat → Int32) → (Nat → Int64) → (Nat → Int32) → (Nat → Int32) → (Nat → Int32) → Prop} (hc : c ≤ 4) (hW : WF M) (hn : ST M va ka sa qa la ra na wa ta) (hk : IK c SV v0 k0 s0 q0 l0 r0 n0 w0 t0 v1 k1 s1 q1 l1 r1 n1 w1 t1 v2 k2 s2 q2 l2 r2 n2 w2 t2 v3 k3 s3 q3 l3 r3 n3 w3 t3) (hq : ∀ (vx0 : Int32) (kx0 : Nat → Int64) (sx0 qx0 lx0 : Nat → Int32) (rx0 : Nat → Int64) (nx0 wx0 tx0 : Nat → Int32) (vx1 : Int32) (kx1 : Nat → Int64) (sx1 qx1 lx1 : Nat → Int32) (rx1 : Nat → Int64) (nx1 wx1 tx1 : Nat → Int32) (vx2 : Int32) (kx2 : Nat → Int64) (sx2 qx2 lx2 : Nat → Int32) (rx2 : Nat → Int64) (nx2 wx2 tx2 : Nat → Int32) (vx3 : Int32) (kx3 : Nat → Int64) (sx3 qx3 lx3 : Nat → Int32) (rx3 : Nat → Int64) (nx3 wx3 tx3 : Nat → Int32), IK (cx c) (nx c SV M) vx0 kx0 sx0 qx0 lx0 rx0 nx0 wx0 tx0 vx1 kx1 sx1 qx1 lx1 rx1 nx1 wx1 tx1 vx2 kx2 sx2 qx2 lx2 rx2 nx2 wx2 tx2 vx3 kx3 sx3 qx3 lx3 rx3 nx3 wx3 tx3 → Q (nI (cx c)) (nI 1) vx0 kx0 sx0 qx0 lx0 rx0 nx0 wx0 tx0 vx1 kx1 sx1 qx1 lx1 rx1 nx1 wx1 tx1 vx2 kx2 sx2 qx2 lx2 rx2 nx2 wx2 tx2 vx3 kx3 sx3 qx3 lx3 rx3 nx3 wx3 tx3) : p_X5_save N (nI c) st v0 k0 s0 q0 l0 r0 n0 w0 t0 va ka sa qa la ra na wa ta v1 k1 s1 q1 l1 r1 n1 w1 t1 v2 k2 s2 q2 l2 r2 n2 w2 t2 v3 k3 s3 q3 l3 r3 n3 w3 t3 Q := by
  obtain ⟨k0', k1', k2', k3'⟩ := hk
  unfold p_X5_save
  simp (disch := omega) only [zl, nS]
  refine ⟨fun h => ⟨by omega, fun h0 => ?_, fun h1 => ?_, fun h2 => ?_, fun h3 => ?_⟩, fun h => ?_⟩
  · subst h0
    refine s_copyFrom hW hn (fun vx kx sx qx lx rx nx wx tx hx => ?_)
    exact hq _ _ _ _ _ _ _ _ _ _ _ _ _ _ _ _ _ _ _ _ _ _ _ _ _ _ _ _ _ _ _ _ _ _ _ _ ⟨fun _ => hx, fun h => absurd h (by decide), fun h => absurd h (by decide), fun h => absurd h (by decide)⟩
  · subst h1
    refine s_copyFrom hW hn (fun vx kx sx qx lx rx nx wx tx hx => ?_)
    exact hq _ _ _ _ _ _ _ _ _ _ _ _ _ _ _ _ _ _ _ _ _ _ _ _ _ _ _ _ _ _ _ _ _ _ _ _ ⟨fun _ => k0' (by decide), fun _ => hx, fun h => absurd h (by decide), fun h => absurd h (by decide)⟩
  · subst h2
    refine s_copyFrom hW hn (fun vx kx sx qx lx rx nx wx tx hx => ?_)
    exact hq _ _ _ _ _ _ _ _ _ _ _ _ _ _ _ _ _ _ _ _ _ _ _ _ _ _ _ _ _ _ _ _ _ _ _ _ ⟨fun _ => k0' (by decide), fun _ => k1' (by decide), fun _ => hx, fun h => absurd h (by decide)⟩
  · subst h3
    refine s_copyFrom hW hn (fun vx kx sx qx lx rx nx wx tx hx => ?_)
    exact hq _ _ _ _ _ _ _ _ _ _ _ _ _ _ _ _ _ _ _ _ _ _ _ _ _ _ _ _ _ _ _ _ _ _ _ _ ⟨fun _ => k0' (by decide), fun _ => k1' (by decide), fun _ => k2' (by decide), fun _ => hx⟩
  · have : c = 4 := by omega
    subst this
    unfold p_X5_dropOldest
    simp (disch := omega) only [zl, nS]
    refine ⟨by decide, fun h => absurd h (by decide), fun h => absurd h (by decide), fun h => absurd h (by decide), fun _ => ?_⟩
    refine s_copyFrom hW hn (fun vx kx sx qx lx rx nx wx tx hx => ?_)
    exact hq _ _ _ _ _ _ _ _ _ _ _ _ _ _ _ _ _ _ _ _ _ _ _ _ _ _ _ _ _ _ _ _ _ _ _ _ ⟨fun _ => k1' (by decide), fun _ => k2' (by decide), fun _ => k3' (by decide), fun _ => hx⟩
/-! the checks of arguments: both sides -/
theorem i32 (x : Int32) : x.toInt < 0 ∨ ∃ v, v < 2147483648 ∧ x = nI v := by
  by_cases q : x.toInt < 0
  · exact Or.inl q
  · refine Or.inr ⟨x.toInt.toNat, ?_, ?_⟩
    · have := x.toInt_lt; omega
    · exact Int32.toInt_inj.mp (by rw [nI_t (by have := x.toInt_lt; omega)]; omega)
theorem i32_n {x : Int32} (h : x.toInt < 0) : (x < nI 0) = True ∧ (∀ v, v < 2147483648 → x ≠ nI v) ∧ (∀ v, v < 2147483648 → (nI v ≤ x) = False) ∧ (∀ v, v < 2147483648 → (x ≤ nI v) = True) := by
  refine ⟨propext ⟨fun _ => trivial, fun _ => ?_⟩, fun v hv q => ?_, fun v hv => propext ⟨fun q => ?_, False.elim⟩, fun v hv => propext ⟨fun _ => trivial, fun _ => ?_⟩⟩
  · rw [Int32.lt_iff_toInt_lt, nI_t (by decide)]; omega
  · rw [q, nI_t hv] at h; omega
  · rw [Int32.le_iff_toInt_le, nI_t hv] at q; omega
  · rw [Int32.le_iff_toInt_le, nI_t hv]; omega
/-- a side and a list's kind -/
def isL (x y : Int32) : Prop := ∃ s l, s < 2 ∧ l < 3 ∧ x = nI s ∧ y = nI l
theorem s_isList5 {N : Nat} {x y : Int32} {Q : Int32 → Prop} (h1 : isL x y → Q (nI 1)) (h0 : ¬ isL x y → Q (nI 0)) : p_X5_isList N x y Q := by
  unfold p_X5_isList
  simp only [zl]
  rcases i32 x with e | ⟨s, hs, rfl⟩
  · obtain ⟨e1, e2, e3, e4⟩ := i32_n e
    refine ⟨fun _ => h0 (fun ⟨s, l, hs, _, hx, _⟩ => e2 s (by omega) hx), fun z => absurd (by rw [e1]; trivial) z⟩
  · refine ⟨fun z => ?_, fun _ => ⟨fun z => ?_, fun z => ?_⟩⟩
    · simp (disch := omega) only [nS] at z
      exact absurd z (by omega)
    · simp (disch := omega) only [nS] at z
      refine h0 (fun ⟨s', l, hs', _, hx, _⟩ => ?_)
      rw [show (nI s = nI s') = (s = s') from nS.2.2.2.2.2.2.2.2.2.1 s s' hs (by omega)] at hx
      omega
    · simp (disch := omega) only [nS] at z
      rcases i32 y with e | ⟨l, hl, rfl⟩
      · obtain ⟨e1, e2, e3, e4⟩ := i32_n e
        refine ⟨fun _ => h0 (fun ⟨s, l, _, hl, _, hy⟩ => e2 l (by omega) hy), fun z => absurd (by rw [e1]; trivial) z⟩
      · simp (disch := omega) only [nS]
        refine ⟨fun z => absurd z (by omega), fun _ => ⟨fun z => ?_, fun z2 => h1 ⟨s, l, by omega, by omega, rfl, rfl⟩⟩⟩
        refine h0 (fun ⟨s', l', _, hl', _, hy⟩ => ?_)
        rw [show (nI l = nI l') = (l = l') from nS.2.2.2.2.2.2.2.2.2.1 l l' hl (by omega)] at hy
        omega
theorem isL_e {s l s' l' : Nat} (hs : s < 2) (hl : l < 3) (hs' : s' < 2) (hl' : l' < 3) (h : nI s = nI s') (h2 : nI l = nI l') : s = s' ∧ l = l' := by
  rw [show (nI s = nI s') = (s = s') from nS.2.2.2.2.2.2.2.2.2.1 s s' (by omega) (by omega)] at h
  rw [show (nI l = nI l') = (l = l') from nS.2.2.2.2.2.2.2.2.2.1 l l' (by omega) (by omega)] at h2
  exact ⟨h, h2⟩
/-- an entry's place -/
def isE (M : Nat → Nat) (x y z : Int32) (l e : Nat) : Prop := l < 6 ∧ e < M (4 + l) ∧ ∃ s k, s < 2 ∧ k < 3 ∧ l = 3 * s + k ∧ x = nI s ∧ y = nI k ∧ z = nI e
theorem s_hasEntry {N : Nat} {M : Nat → Nat} {c0 c1 vn : Int32} {lg : Nat → Int32} {x y z : Int32} {Q : Int32 → Prop} (hL : LN M lg) (hW : WF M) (h1 : ∀ l e, isE M x y z l e → Q (nI 1)) (h0 : (∀ l e, ¬ isE M x y z l e) → Q (nI 0)) : p_X5_hasEntry N c0 c1 vn lg x y z Q := by
  unfold p_X5_hasEntry
  simp only [zl]
  refine s_isList5 (fun h => ⟨fun z => absurd z (by decide), fun _ => ?_⟩) (fun h => ⟨fun _ => h0 (fun l e ⟨_, _, s, k, hs, hk, _, hx, hy, _⟩ => h ⟨s, k, hs, hk, hx, hy⟩), fun z => absurd rfl z⟩)
  obtain ⟨s, k, hs, hk, rfl, rfl⟩ := h
  refine s_slotOf ?_
  have h10 := hW.2.1 (s * 3 + k) (by omega)
  unfold p_X3_hasPlace
  simp (disch := omega) only [zl, nS]
  rw [hL _ (by omega)]
  rcases i32 z with e | ⟨v, hv, rfl⟩
  · obtain ⟨e1, e2, e3, e4⟩ := i32_n e
    refine ⟨fun _ => ⟨fun _ => h0 (fun l f ⟨_, he, _, _, _, _, _, _, _, hz⟩ => e2 f (by have := hW.2.1 l (by omega); omega) hz), fun z => absurd trivial z⟩, fun z => absurd (by rw [e1]; trivial) z⟩
  · simp (disch := omega) only [nS]
    refine ⟨fun z => absurd z (by omega), fun _ => ⟨by omega, fun z => ⟨fun _ => h0 (fun l f ⟨_, he, s', k', hs', hk', hl, hx, hy, hz⟩ => ?_), fun z => absurd trivial z⟩, fun z => ⟨fun z => absurd z (by decide), fun _ => h1 (s * 3 + k) v ⟨by omega, by omega, s, k, hs, hk, by omega, rfl, rfl, rfl⟩⟩⟩⟩
    obtain ⟨rfl, rfl⟩ := isL_e hs hk hs' hk' hx hy
    have h11 := hW.2.1 l (by omega)
    rw [show (nI v = nI f) = (v = f) from nS.2.2.2.2.2.2.2.2.2.1 v f hv (by omega)] at hz
    rw [show s * 3 + k = l by omega] at z
    omega


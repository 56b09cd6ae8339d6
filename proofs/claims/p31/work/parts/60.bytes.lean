/-! bytes that are written, one behind the other -/
theorem us_l : ∀ n, n < 32 → (((nI n).toUInt32 &&& Int32.toUInt32 31).toBitVec % 32).toNat = n := by decide +kernel
theorem sh_u {a k : Nat} (ha : a < 4294967296) (hk : k < 32) : ((nI a).toUInt32 >>> ((nI k).toUInt32 &&& Int32.toUInt32 (nI 31))).toInt32 = nI (a / 2 ^ k) := pk_ushrN ha (nI k) k (us_l k hk)
theorem sh_s {a k : Nat} (ha : a < 2147483648) (hk : k < 32) : nI a >>> (nI k &&& nI 31) = nI (a / 2 ^ k) := pk_shrN ha (nI k &&& 31) k (s_l k hk)
theorem an_7 {a : Nat} (h : a < 4294967296) : nI a &&& nI 127 = nI (a % 128) := pk_andN h 7 (by decide)
theorem an_5 {a : Nat} (h : a < 4294967296) : nI a &&& nI 31 = nI (a % 32) := pk_andN h 5 (by decide)
theorem let20 {k s : Nat} (hk : k < 1152921504606846976) (hs : s < 64) : ((((lN k).toUInt64 >>> ((lN s).toUInt64 &&& Int64.toUInt64 63)).toInt64) &&& lN 1048575).toInt32 = nI (k / 2 ^ s % 1048576) := by
  rw [lS.2.2.2.1 k s (by omega) hs, show lN 1048575 = lN (2 ^ 20 - 1) from rfl, wb_mask (Nat.lt_of_le_of_lt (Nat.div_le_self _ _) (by omega)) (by decide), lN_i]
def gB : List Nat → Nat → Nat
  | [], _ => 0
  | x :: _, 0 => x
  | _ :: l, j + 1 => gB l j
theorem gB_l : ∀ (L R : List Nat) (j : Nat), j < L.length → gB (L ++ R) j = gB L j
  | [], _, _, h => absurd h (Nat.not_lt_zero _)
  | _ :: _, _, 0, _ => rfl
  | _ :: L, R, j + 1, h => gB_l L R j (Nat.lt_of_succ_lt_succ h)
theorem gB_e : ∀ (L R : List Nat) (x : Nat), gB (L ++ x :: R) L.length = x
  | [], _, _ => rfl
  | _ :: L, R, x => gB_e L R x
def WB (L : List Nat) (b : Nat → Int32) : Prop := ∀ j, j < L.length → b j = nI (gB L j)
theorem WB_0 (b : Nat → Int32) : WB [] b := fun _ h => absurd h (Nat.not_lt_zero _)
theorem len1 (L : List Nat) (x : Nat) : (L ++ [x]).length = L.length + 1 := by rw [List.length_append]; rfl
theorem WB_s {L : List Nat} {b : Nat → Int32} {x : Nat} (h : WB L b) : WB (L ++ [x]) (upd b L.length (nI x)) := by
  intro j hj
  rw [len1] at hj
  rw [upd_at]
  by_cases q : j = L.length
  · rw [if_pos q, q, gB_e]
  · rw [if_neg q, gB_l L [x] j (by omega)]; exact h j (by omega)
theorem s_putB {N x : Nat} {L : List Nat} {b : Nat → Int32} {Q : Int32 → (Nat → Int32) → Prop} (hb : WB L b) (hx : x < 128) (hl : L.length + 1 ≤ 608) (hq : ∀ b', WB (L ++ [x]) b' → Q (nI (L ++ [x]).length) b') : p_X0_put N (nI L.length) b (nI x) Q := by
  unfold p_X0_put
  simp (disch := omega) only [zl, nS]
  refine ⟨fun h => absurd h (by omega), fun _ => ⟨by omega, ?_⟩⟩
  rw [nar_b x hx]
  have := hq _ (WB_s hb)
  rw [len1] at this
  exact this
/-! a name -/
def bnz (x : Nat) : List Nat := if x = 0 then [] else [x]
theorem bnz_0 : bnz 0 = [] := rfl
theorem bnz_p {x : Nat} (h : x ≠ 0) : bnz x = [x] := if_neg h
theorem bnz_len (x : Nat) : (bnz x).length ≤ 1 := by
  unfold bnz
  split
  · exact Nat.zero_le _
  · exact Nat.le_refl _
def nmB (x : Nat) : List Nat := bnz (x / 16777216) ++ (bnz (x / 65536 % 256) ++ (bnz (x / 256 % 256) ++ bnz (x % 256)))
theorem nmB_len (x : Nat) : (nmB x).length ≤ 4 := by
  unfold nmB
  rw [List.length_append, List.length_append, List.length_append]
  have := bnz_len (x / 16777216)
  have := bnz_len (x / 65536 % 256)
  have := bnz_len (x / 256 % 256)
  have := bnz_len (x % 256)
  omega
theorem nmB_0 : nmB 0 = [] := rfl
abbrev okL (y : Nat) : Prop := y = 0 ∨ (97 ≤ y ∧ y ≤ 122)
theorem s_pn {N n i x y : Nat} {L : List Nat} {b : Nat → Int32} {K : Int32 → Int32 → (Nat → Int32) → Prop} (hx : x < 1048576) (hi : i < 4) (hy : okL y) (h : x / 2 ^ (5 * i) % 32 = d5 y) (hb : WB L b) (hl : L.length + 1 ≤ 608) (hq : ∀ b', WB (L ++ bnz y) b' → p_X0_putName_2 N (nI x) K n (nI i + -nI 1) (nI (L ++ bnz y).length) b') : p_X0_putName_2 N (nI x) K (n + 1) (nI i) (nI L.length) b := by
  unfold p_X0_putName_2
  have e : ((nI x).toUInt32 >>> ((nI (5 * i)).toUInt32 &&& Int32.toUInt32 (nI 31))).toInt32 &&& nI 31 = nI (d5 y) := by
    rw [sh_u (by omega) (by omega), an_5 (Nat.lt_of_le_of_lt (Nat.div_le_self _ _) (by omega)), h]
  simp (disch := omega) only [zl, nS]
  simp only [e]
  refine ⟨fun h => absurd h (by omega), fun _ => ?_⟩
  rcases hy with rfl | hy
  · refine ⟨fun _ => ?_, fun z => absurd rfl z⟩
    have := hq b (by rw [bnz_0, List.append_nil]; exact hb)
    rw [bnz_0, List.append_nil] at this
    exact this
  · have h5 : d5 y = y - 96 := rfl
    simp (disch := omega) only [nS]
    refine ⟨fun z => absurd z (by omega), fun _ => ?_⟩
    rw [show 97 + d5 y - 1 = y by omega]
    rw [bnz_p (by omega)] at hq
    exact s_putB hb (by omega) hl hq
theorem s_putName {N x : Nat} {L : List Nat} {b : Nat → Int32} {Q : Int32 → (Nat → Int32) → Prop} (hN : 1000 < N) (hx : okN x) (hb : WB L b) (hl : L.length + 4 ≤ 608) (hq : ∀ b', WB (L ++ nmB x) b' → Q (nI (L ++ nmB x).length) b') : p_X0_putName N (nI L.length) b (nI (c5 x)) Q := by
  have hx5 := c5_lt hx
  have ec5 : c5 x = ((d5 (x / 16777216) * 32 + d5 (x / 65536 % 256)) * 32 + d5 (x / 256 % 256)) * 32 + d5 (x % 256) := rfl
  obtain ⟨o1, o2, o3, o4, -⟩ := hx
  have d1 := (d5_b o1).1
  have d2 := (d5_b o2).1
  have d3 := (d5_b o3).1
  have d4 := (d5_b o4).1
  have l1 := bnz_len (x / 16777216)
  have l2 := bnz_len (x / 65536 % 256)
  have l3 := bnz_len (x / 256 % 256)
  have l4 := bnz_len (x % 256)
  unfold nmB at hq
  revert hq
  revert l4
  revert l3
  revert l2
  revert l1
  revert d4
  revert d3
  revert d2
  revert d1
  revert o4
  revert o3
  revert o2
  revert o1
  revert ec5
  revert hx5
  generalize x / 16777216 = p
  generalize x / 65536 % 256 = q
  generalize x / 256 % 256 = r
  generalize x % 256 = s
  generalize c5 x = z
  intro hx5 ec5 o1 o2 o3 o4 d1 d2 d3 d4 l1 l2 l3 l4 hq
  obtain ⟨m, rfl⟩ : ∃ m, N = m + 1 + 1 + 1 + 1 + 1 := ⟨N - 5, by omega⟩
  unfold p_X0_putName
  simp only [zl]
  refine s_pn (i := 3) hx5 (by decide) o1 (by show z / 32768 % 32 = _; omega) hb (by omega) (fun b1 h1 => ?_)
  rw [dn1 (by decide)]
  refine s_pn (i := 2) hx5 (by decide) o2 (by show z / 1024 % 32 = _; omega) h1 (by rw [List.length_append]; omega) (fun b2 h2 => ?_)
  rw [dn1 (by decide)]
  refine s_pn (i := 1) hx5 (by decide) o3 (by show z / 32 % 32 = _; omega) h2 (by rw [List.length_append, List.length_append]; omega) (fun b3 h3 => ?_)
  rw [dn1 (by decide)]
  refine s_pn (i := 0) hx5 (by decide) o4 (by show z / 1 % 32 = _; omega) h3 (by rw [List.length_append, List.length_append, List.length_append]; omega) (fun b4 h4 => ?_)
  unfold p_X0_putName_2
  refine ⟨fun _ => ?_, fun z => absurd (by decide) z⟩
  rw [show L ++ bnz p ++ bnz q ++ bnz r ++ bnz s = L ++ (bnz p ++ (bnz q ++ (bnz r ++ bnz s))) by simp only [List.append_assoc]] at h4 ⊢
  exact hq b4 h4
/-! a number -/
def ng (n : Nat) : Nat → List Nat → List Nat
  | _, [] => []
  | g, p :: r => if g ≠ 0 ∨ n / p % 10 ≠ 0 ∨ p = 1 then (48 + n / p % 10) :: ng n 1 r else ng n 0 r
theorem ng_len (n : Nat) : ∀ (ps : List Nat) (g : Nat), (ng n g ps).length ≤ ps.length
  | [], _ => Nat.le_refl _
  | p :: r, g => by
    unfold ng
    split
    · exact Nat.succ_le_succ (ng_len n r 1)
    · exact Nat.le_succ_of_le (ng_len n r 0)
def hd : List Nat → Nat
  | [] => 0
  | p :: _ => p
def PW : List Nat → Prop
  | [] => True
  | p :: r => 0 < p ∧ p ≤ 100000 ∧ hd r = p / 10 ∧ (p = 1 ∨ p % 10 = 0) ∧ PW r
abbrev p6 : List Nat := [100000, 10000, 1000, 100, 10, 1]
theorem PW_6 : PW p6 := ⟨by decide, by decide, rfl, by decide, by decide, by decide, rfl, by decide, by decide, by decide, rfl, by decide, by decide, by decide, rfl, by decide, by decide, by decide, rfl, by decide, by decide, by decide, rfl, by decide, trivial⟩
def numB (n : Nat) : List Nat := ng n 0 p6
theorem numB_len (n : Nat) : (numB n).length ≤ 6 := ng_len n p6 0
theorem ap1 (L : List Nat) (x : Nat) (R : List Nat) : L ++ [x] ++ R = L ++ (x :: R) := by rw [List.append_assoc]; rfl
theorem s_pnum {N n : Nat} {K : Int32 → Int32 → Int32 → (Nat → Int32) → Prop} (hn : n < 1000000) : ∀ (ps : List Nat) (g f : Nat) (L : List Nat) (b : Nat → Int32), PW ps → ps.length < f → g ≤ 1 → WB L b → L.length + ps.length ≤ 608 → (∀ x p b', WB (L ++ ng n g ps) b' → K x p (nI (L ++ ng n g ps).length) b') → p_X0_putNumber_5 N (nI n) K f (nI g) (nI (hd ps)) (nI L.length) b
  | [], g, 0, L, b, _, h, _, _, _, _ => absurd h (Nat.not_lt_zero _)
  | [], g, f + 1, L, b, _, _, _, hb, _, hk => by
    unfold p_X0_putNumber_5
    refine ⟨fun _ => ?_, fun z => absurd (by decide) z⟩
    have := hk (nI g) (nI 0) b (by show WB (L ++ []) b; rw [List.append_nil]; exact hb)
    rw [show ng n g [] = [] from rfl, List.append_nil] at this
    exact this
  | p :: r, g, 0, L, b, _, h, _, _, _, _ => absurd h (Nat.not_lt_zero _)
  | p :: r, g, f + 1, L, b, hp, hf, hg, hb, hl, hk => by
    obtain ⟨p0, p1, p2, p3, p4⟩ := hp
    have hf' : r.length < f := Nat.lt_of_succ_lt_succ hf
    have hl' : L.length + (r.length + 1) ≤ 608 := hl
    have hdp : n / p < 1000000 := Nat.lt_of_le_of_lt (Nat.div_le_self _ _) hn
    have e : nI n / nI p - nI n / nI p / nI 10 * nI 10 = nI (n / p % 10) := by
      rw [pk_div (by omega) p0 (by omega)]
      exact pk_rem (by omega) (by decide) (by decide)
    show p_X0_putNumber_5 N (nI n) K (f + 1) (nI g) (nI p) (nI L.length) b
    unfold p_X0_putNumber_5
    simp only [zl, e]
    have hd10 : n / p % 10 < 10 := Nat.mod_lt _ (by decide)
    have go : (g ≠ 0 ∨ n / p % 10 ≠ 0 ∨ p = 1) → p_X0_put N (nI L.length) b (nI (48 + n / p % 10)) (fun u_1 u_2 => p_X0_putNumber_5 N (nI n) K f (nI 1) (nI (p / 10)) u_1 u_2) := by
      intro hc
      have e2 : ng n g (p :: r) = (48 + n / p % 10) :: ng n 1 r := if_pos hc
      rw [e2] at hk
      refine s_putB hb (by omega) (by omega) (fun b' h' => ?_)
      rw [← p2]
      refine s_pnum hn r 1 f (L ++ [48 + n / p % 10]) b' p4 hf' (Nat.le_refl _) h' (by rw [len1]; omega) (fun x p b2 h2 => ?_)
      rw [ap1] at h2 ⊢
      exact hk x p b2 h2
    have skip : ¬ (g ≠ 0 ∨ n / p % 10 ≠ 0 ∨ p = 1) → p_X0_putNumber_5 N (nI n) K f (nI 0) (nI (p / 10)) (nI L.length) b := by
      intro hc
      have e2 : ng n g (p :: r) = ng n 0 r := if_neg hc
      rw [e2] at hk
      rw [← p2]
      exact s_pnum hn r 0 f L b p4 hf' (by omega) hb (by omega) hk
    revert hd10
    revert skip
    revert go
    generalize n / p % 10 = d
    intro go skip hd10
    simp (disch := omega) only [nS]
    refine ⟨fun z => absurd z (by omega), fun _ => ⟨by omega, fun z => go (Or.inl z), fun z => ⟨fun z2 => go (Or.inr (Or.inl z2)), fun z2 => ⟨fun z3 => skip (fun q => by omega), fun z3 => go (Or.inr (Or.inr z3))⟩⟩⟩⟩
theorem s_putNumber {N n : Nat} {L : List Nat} {b : Nat → Int32} {Q : Int32 → (Nat → Int32) → Prop} (hN : 1000 < N) (hn : n < 1000000) (hb : WB L b) (hl : L.length + 6 ≤ 608) (hq : ∀ b', WB (L ++ numB n) b' → Q (nI (L ++ numB n).length) b') : p_X0_putNumber N (nI L.length) b (nI n) Q := by
  unfold p_X0_putNumber
  simp only [zl]
  exact s_pnum hn p6 0 N L b PW_6 (by show 6 < N; omega) (by omega) hb hl (fun x p b' h => hq b' h)

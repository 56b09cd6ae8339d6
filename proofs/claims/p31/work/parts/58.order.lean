/-! an order that grows by insertion -/
noncomputable def dc (p : Prop) : Bool := @decide p (Classical.propDecidable p)
theorem dc_t {p : Prop} (h : p) : dc p = true := @decide_eq_true p (Classical.propDecidable p) h
theorem dc_f {p : Prop} (h : ¬ p) : dc p = false := @decide_eq_false p (Classical.propDecidable p) h
noncomputable def posR (A : Nat → Nat → Prop) (v : Nat) (f : Nat → Nat) : Nat → Nat
  | 0 => 0
  | p + 1 => if dc (A v (f p)) = true then posR A v f p else p + 1
theorem posR_0 (A : Nat → Nat → Prop) (v : Nat) (f : Nat → Nat) : posR A v f 0 = 0 := rfl
theorem posR_t {A : Nat → Nat → Prop} {v : Nat} {f : Nat → Nat} {p : Nat} (h : A v (f p)) : posR A v f (p + 1) = posR A v f p := by
  show (if dc (A v (f p)) = true then posR A v f p else p + 1) = _
  rw [if_pos (dc_t h)]
theorem posR_f {A : Nat → Nat → Prop} {v : Nat} {f : Nat → Nat} {p : Nat} (h : ¬ A v (f p)) : posR A v f (p + 1) = p + 1 := by
  show (if dc (A v (f p)) = true then posR A v f p else p + 1) = _
  rw [dc_f h, if_neg (by decide)]
theorem posR_p (A : Nat → Nat → Prop) (v : Nat) (f : Nat → Nat) : ∀ n, posR A v f n ≤ n ∧ (posR A v f n = 0 ∨ ¬ A v (f (posR A v f n - 1))) ∧ ∀ j, posR A v f n ≤ j → j < n → A v (f j)
  | 0 => ⟨Nat.le_refl _, Or.inl rfl, fun j h1 h2 => absurd h2 (by omega)⟩
  | n + 1 => by
    obtain ⟨h1, h2, h3⟩ := posR_p A v f n
    by_cases q : A v (f n)
    · rw [posR_t q]
      refine ⟨by omega, h2, fun j h4 h5 => ?_⟩
      by_cases e : j = n
      · rw [e]; exact q
      · exact h3 j h4 (by omega)
    · rw [posR_f q]
      exact ⟨Nat.le_refl _, Or.inr (by rw [Nat.add_sub_cancel]; exact q), fun j h4 h5 => absurd h5 (by omega)⟩
def insR (v p : Nat) (f : Nat → Nat) : Nat → Nat := fun j => if j < p then f j else if j = p then v else f (j - 1)
theorem insR_l {v p : Nat} {f : Nat → Nat} {j : Nat} (h : j < p) : insR v p f j = f j := if_pos h
theorem insR_e (v p : Nat) (f : Nat → Nat) : insR v p f p = v := by unfold insR; rw [if_neg (by omega), if_pos rfl]
theorem insR_g {v p : Nat} {f : Nat → Nat} {j : Nat} (h : p < j) : insR v p f j = f (j - 1) := by unfold insR; rw [if_neg (by omega), if_neg (by omega)]
noncomputable def rk (A : Nat → Nat → Prop) (S : Nat → Prop) : Nat → Nat × (Nat → Nat)
  | 0 => (0, fun _ => 0)
  | k + 1 => if dc (S k) = true then ((rk A S k).1 + 1, insR k (posR A k (rk A S k).2 (rk A S k).1) (rk A S k).2) else rk A S k
theorem rk_t {A : Nat → Nat → Prop} {S : Nat → Prop} {k : Nat} (h : S k) : rk A S (k + 1) = ((rk A S k).1 + 1, insR k (posR A k (rk A S k).2 (rk A S k).1) (rk A S k).2) := by
  show (if dc (S k) = true then _ else _) = _
  rw [if_pos (dc_t h)]
theorem rk_f {A : Nat → Nat → Prop} {S : Nat → Prop} {k : Nat} (h : ¬ S k) : rk A S (k + 1) = rk A S k := by
  show (if dc (S k) = true then _ else _) = _
  rw [dc_f h, if_neg (by decide)]
theorem rk_lt (A : Nat → Nat → Prop) (S : Nat → Prop) : ∀ k, (rk A S k).1 ≤ k ∧ ∀ i, i < (rk A S k).1 → (rk A S k).2 i < k
  | 0 => ⟨Nat.le_refl _, fun i h => absurd h (by show ¬ i < 0; omega)⟩
  | k + 1 => by
    obtain ⟨h1, h2⟩ := rk_lt A S k
    by_cases q : S k
    · rw [rk_t q]
      obtain ⟨p1, _, _⟩ := posR_p A k (rk A S k).2 (rk A S k).1
      refine ⟨by show (rk A S k).1 + 1 ≤ _; omega, fun i hi => ?_⟩
      replace hi : i < (rk A S k).1 + 1 := hi
      show insR k _ _ i < k + 1
      unfold insR
      split
      · have := h2 i (by omega); omega
      · split
        · omega
        · have := h2 (i - 1) (by omega); omega
    · rw [rk_f q]
      exact ⟨by omega, fun i hi => by have := h2 i hi; omega⟩
/-- a total order -/
def TO (A : Nat → Nat → Prop) : Prop := (∀ u w, u ≠ w → A u w ∨ A w u) ∧ (∀ u w, A u w → ¬ A w u) ∧ (∀ u w x, A u w → A w x → A u x)
def SR (A : Nat → Nat → Prop) (S : Nat → Prop) (n : Nat) (f : Nat → Nat) : Prop := (∀ i, i < n → S (f i)) ∧ (∀ v, S v → ∃ i, i < n ∧ f i = v) ∧ (∀ i j, i < j → j < n → A (f i) (f j))
theorem SR_ins {A : Nat → Nat → Prop} {S : Nat → Prop} {n v : Nat} {f : Nat → Nat} (hA : TO A) (h : SR A S n f) (hv : ¬ S v) : SR A (fun u => S u ∨ u = v) (n + 1) (insR v (posR A v f n) f) := by
  obtain ⟨a1, a2, a3⟩ := h
  obtain ⟨p1, p2, p3⟩ := posR_p A v f n
  revert p1 p2 p3
  generalize posR A v f n = p
  intro p1 p2 p3
  have hb : ∀ i, i < p → A (f i) v := by
    intro i hi
    rcases p2 with p2 | p2
    · omega
    · have h1 : A (f (p - 1)) v := by
        rcases hA.1 (f (p - 1)) v (fun e => hv (by rw [← e]; exact a1 _ (by omega))) with t | t
        · exact t
        · exact absurd t p2
      by_cases e : i = p - 1
      · rw [e]; exact h1
      · exact hA.2.2 _ _ _ (a3 i (p - 1) (by omega) (by omega)) h1
  refine ⟨fun i hi => ?_, fun u hu => ?_, fun i j hij hj => ?_⟩
  · rcases Nat.lt_trichotomy i p with q | q | q
    · rw [insR_l q]; exact Or.inl (a1 i (by omega))
    · rw [q, insR_e]; exact Or.inr rfl
    · rw [insR_g q]; exact Or.inl (a1 _ (by omega))
  · rcases hu with hu | hu
    · obtain ⟨i, hi, e⟩ := a2 u hu
      by_cases q : i < p
      · exact ⟨i, by omega, by rw [insR_l q]; exact e⟩
      · exact ⟨i + 1, by omega, by rw [insR_g (by omega), Nat.add_sub_cancel]; exact e⟩
    · exact ⟨p, by omega, by rw [insR_e, hu]⟩
  · rcases Nat.lt_trichotomy j p with q | q | q
    · rw [insR_l q, insR_l (by omega)]; exact a3 i j hij (by omega)
    · subst q
      rw [insR_e, insR_l hij]; exact hb i hij
    · rw [insR_g q]
      rcases Nat.lt_trichotomy i p with r | r | r
      · rw [insR_l r]; exact a3 i (j - 1) (by omega) (by omega)
      · rw [r, insR_e]; exact p3 (j - 1) (by omega) (by omega)
      · rw [insR_g r]; exact a3 (i - 1) (j - 1) (by omega) (by omega)
theorem SR_c {A : Nat → Nat → Prop} {S S' : Nat → Prop} {n : Nat} {f : Nat → Nat} (h : SR A S n f) (e : ∀ v, S v ↔ S' v) : SR A S' n f := ⟨fun i hi => (e _).mp (h.1 i hi), fun v hv => h.2.1 v ((e v).mpr hv), h.2.2⟩
theorem rk_SR {A : Nat → Nat → Prop} (hA : TO A) (S : Nat → Prop) : ∀ k, SR A (fun v => v < k ∧ S v) (rk A S k).1 (rk A S k).2
  | 0 => ⟨fun i h => absurd h (by show ¬ i < 0; omega), fun v h => absurd h.1 (by omega), fun i j _ h => absurd h (by show ¬ j < 0; omega)⟩
  | k + 1 => by
    have ih := rk_SR hA S k
    by_cases q : S k
    · rw [rk_t q]
      refine SR_c (SR_ins hA ih (v := k) (fun h => absurd h.1 (by omega))) (fun v => ⟨fun h => ?_, fun h => ?_⟩)
      · rcases h with h | h
        · exact ⟨by have := h.1; omega, h.2⟩
        · rw [h]; exact ⟨by omega, q⟩
      · by_cases e : v = k
        · exact Or.inr e
        · exact Or.inl ⟨by have := h.1; omega, h.2⟩
    · rw [rk_f q]
      refine SR_c ih (fun v => ⟨fun h => ⟨by have := h.1; omega, h.2⟩, fun h => ⟨?_, h.2⟩⟩)
      by_cases e : v = k
      · rw [e] at h; exact absurd h.2 q
      · have := h.1; omega
/-- the first one + 1, or 0 -/
noncomputable def fi (A : Nat → Nat → Prop) (S : Nat → Prop) (k : Nat) : Nat := if (rk A S k).1 = 0 then 0 else (rk A S k).2 0 + 1
theorem fi_0 {A : Nat → Nat → Prop} {S : Nat → Prop} {k : Nat} (h : (rk A S k).1 = 0) : fi A S k = 0 := if_pos h
theorem fi_p {A : Nat → Nat → Prop} {S : Nat → Prop} {k : Nat} (h : (rk A S k).1 ≠ 0) : fi A S k = (rk A S k).2 0 + 1 := if_neg h
theorem fi_le (A : Nat → Nat → Prop) (S : Nat → Prop) (k : Nat) : fi A S k ≤ k := by
  unfold fi
  split
  · omega
  · exact (rk_lt A S k).2 0 (by omega)
theorem fi_iff {A : Nat → Nat → Prop} (hA : TO A) {S : Nat → Prop} {k v : Nat} : fi A S k = v + 1 ↔ v < k ∧ S v ∧ ∀ u, u < k → S u → u ≠ v → A v u := by
  obtain ⟨a1, a2, a3⟩ := rk_SR hA S k
  refine ⟨fun h => ?_, fun h => ?_⟩
  · by_cases q : (rk A S k).1 = 0
    · rw [fi_0 q] at h; omega
    · rw [fi_p q] at h
      have e : (rk A S k).2 0 = v := by omega
      obtain ⟨b1, b2⟩ := a1 0 (by omega)
      rw [e] at b1 b2
      refine ⟨b1, b2, fun u hu su hne => ?_⟩
      obtain ⟨i, hi, ei⟩ := a2 u ⟨hu, su⟩
      have : 0 < i := by
        rcases Nat.eq_zero_or_pos i with z | z
        · rw [z, e] at ei; exact absurd ei.symm hne
        · exact z
      have := a3 0 i this hi
      rw [e, ei] at this
      exact this
  · obtain ⟨h1, h2, h3⟩ := h
    obtain ⟨i, hi, ei⟩ := a2 v ⟨h1, h2⟩
    rw [fi_p (by omega)]
    obtain ⟨b1, b2⟩ := a1 0 (by omega)
    by_cases q : (rk A S k).2 0 = v
    · rw [q]
    · have c1 := h3 _ b1 b2 q
      have hi0 : 0 < i := by
        rcases Nat.eq_zero_or_pos i with z | z
        · rw [z] at ei; exact absurd ei q
        · exact z
      have c2 := a3 0 i hi0 hi
      rw [ei] at c2
      exact absurd c2 (hA.2.1 _ _ c1)
theorem fi_none {A : Nat → Nat → Prop} {S : Nat → Prop} {k : Nat} (hA : TO A) : fi A S k = 0 ↔ ∀ u, u < k → ¬ S u := by
  obtain ⟨a1, a2, a3⟩ := rk_SR hA S k
  refine ⟨fun h u hu su => ?_, fun h => ?_⟩
  · obtain ⟨i, hi, ei⟩ := a2 u ⟨hu, su⟩
    rw [fi_p (by omega)] at h
    omega
  · by_cases q : (rk A S k).1 = 0
    · exact fi_0 q
    · obtain ⟨b1, b2⟩ := a1 0 (by omega)
      exact absurd b2 (h _ b1)
/-- the first one when one of them is left out -/
theorem fi_wo {A : Nat → Nat → Prop} {S : Nat → Prop} {k x : Nat} (hA : TO A) : fi A (fun v => S v ∧ v + 1 ≠ x + 1) k = if fi A S k = x + 1 then (if 1 < (rk A S k).1 then (rk A S k).2 1 + 1 else 0) else fi A S k := by
  obtain ⟨a1, a2, a3⟩ := rk_SR hA S k
  by_cases q : fi A S k = x + 1
  · rw [if_pos q]
    have hn : (rk A S k).1 ≠ 0 := fun z => by rw [fi_0 z] at q; omega
    have e0 : (rk A S k).2 0 = x := by rw [fi_p hn] at q; omega
    by_cases r : 1 < (rk A S k).1
    · rw [if_pos r]
      obtain ⟨b1, b2⟩ := a1 1 r
      have h01 := a3 0 1 (by omega) r
      have hne : ∀ u, A ((rk A S k).2 0) u → u ≠ (rk A S k).2 0 := fun u t z => by rw [z] at t; exact hA.2.1 _ _ t t
      refine (fi_iff hA).mpr ⟨b1, ⟨b2, fun z => hne _ h01 (by rw [e0]; omega)⟩, fun u hu su hn1 => ?_⟩
      obtain ⟨i, hi, ei⟩ := a2 u ⟨hu, su.1⟩
      have : 1 < i := by
        rcases (show i = 0 ∨ i = 1 ∨ 1 < i by omega) with z | z | z
        · rw [z, e0] at ei; exact absurd (by rw [ei]) su.2
        · rw [z] at ei; exact absurd ei.symm hn1
        · exact z
      have := a3 1 i this hi
      rw [ei] at this
      exact this
    · rw [if_neg r]
      refine (fi_none hA).mpr (fun u hu su => ?_)
      obtain ⟨i, hi, ei⟩ := a2 u ⟨hu, su.1⟩
      rw [show i = 0 by omega, e0] at ei
      exact su.2 (by rw [ei])
  · rw [if_neg q]
    by_cases r : fi A S k = 0
    · rw [r]
      rw [fi_none hA] at r
      exact (fi_none hA).mpr (fun u hu su => r u hu su.1)
    · obtain ⟨w, hw⟩ : ∃ w, fi A S k = w + 1 := ⟨fi A S k - 1, by omega⟩
      rw [hw] at q ⊢
      obtain ⟨h1, h2, h3⟩ := (fi_iff hA).mp hw
      exact (fi_iff hA).mpr ⟨h1, ⟨h2, q⟩, fun u hu su hne => h3 u hu su.1 hne⟩
theorem rk_congS {A : Nat → Nat → Prop} {S S' : Nat → Prop} : ∀ k, (∀ v, v < k → (S v ↔ S' v)) → rk A S k = rk A S' k
  | 0, _ => rfl
  | k + 1, h => by
    have ih := rk_congS (A := A) (S := S) (S' := S') k (fun v hv => h v (by omega))
    by_cases q : S k
    · rw [rk_t q, rk_t ((h k (by omega)).mp q), ih]
    · rw [rk_f q, rk_f (fun z => q ((h k (by omega)).mpr z)), ih]
/-- the last place at which v stands among the first n, + 1, or 0 -/
def plI (f : Nat → Nat) (v : Nat) : Nat → Nat
  | 0 => 0
  | n + 1 => if f n = v then n + 1 else plI f v n
theorem plI_le (f : Nat → Nat) (v : Nat) : ∀ n, plI f v n ≤ n
  | 0 => Nat.le_refl _
  | n + 1 => by
    show (if f n = v then n + 1 else plI f v n) ≤ _
    have := plI_le f v n
    split <;> omega
def RO (n : Nat) (f : Nat → Nat) (ord : Nat → Int32) : Prop := ∀ j, j < n → ord j = nI (f j)
theorem RO_ins {v p k : Nat} {f : Nat → Nat} {ord : Nat → Int32} (hp : p ≤ k) (h1 : ∀ j, j < p → ord j = nI (f j)) (h2 : ∀ j, p < j → j ≤ k → ord j = nI (f (j - 1))) : RO (k + 1) (insR v p f) (upd ord p (nI v)) := by
  intro j hj
  rw [upd_at]
  rcases Nat.lt_trichotomy j p with q | q | q
  · rw [if_neg (by omega), insR_l q]; exact h1 j q
  · rw [if_pos q, q, insR_e]
  · rw [if_neg (by omega), insR_g q]; exact h2 j q (by omega)
theorem dn1 {a : Nat} (h : 1 ≤ a) : nI a + -nI 1 = nI (a - 1) := by rw [← Int32.sub_eq_add_neg]; exact pk_sub h
/-- the shifting loop's state at place x: cells below x stand, those above have moved up -/
def SF (k : Nat) (f : Nat → Nat) (x : Nat) (ord : Nat → Int32) : Prop := (∀ j, j < x → ord j = nI (f j)) ∧ ∀ j, x < j → j ≤ k → ord j = nI (f (j - 1))
theorem SF_0 {k : Nat} {f : Nat → Nat} {ord : Nat → Int32} (h : RO k f ord) : SF k f k ord := ⟨h, fun j h1 h2 => absurd h2 (by omega)⟩
theorem SF_s {k y : Nat} {f : Nat → Nat} {ord : Nat → Int32} (h : SF k f (y + 1) ord) (hy : y < k) : SF k f y (upd ord (y + 1) (nI (f y))) := by
  refine ⟨fun j hj => ?_, fun j h1 h2 => ?_⟩
  · rw [upd_at, if_neg (by omega)]; exact h.1 j (by omega)
  · rw [upd_at]
    by_cases q : j = y + 1
    · rw [if_pos q, q, Nat.add_sub_cancel]
    · rw [if_neg q]; exact h.2 j (by omega) h2


theorem lB_len (M : Nat → Nat) : ∀ k, (lB M k).length ≤ 38 * k
  | 0 => Nat.le_refl _
  | k + 1 => by
    have := lB_len M k
    have := vB_len M (roM M k)
    show (lB M k ++ ((if k = 0 then [] else [44, 32]) ++ vB M (roM M k))).length ≤ _
    rw [List.length_append, List.length_append]
    have : (if k = 0 then [] else [44, 32] : List Nat).length ≤ 2 := by split <;> simp
    omega
theorem roM_lt {M : Nat → Nat} {i : Nat} (h : i < M 0) : roM M i < M 0 := rk_all_lt _ h
theorem lB_0 {M : Nat → Nat} : lB M 1 = lB M 0 ++ vB M (roM M 0) := rfl
theorem lB_p {M : Nat → Nat} {k : Nat} (h : k ≠ 0) : lB M (k + 1) = lB M k ++ [44] ++ [32] ++ vB M (roM M k) := by
  show lB M k ++ ((if k = 0 then [] else [44, 32]) ++ vB M (roM M k)) = _
  rw [if_neg h]
  simp only [List.append_assoc]
  rfl
/-- what the class's listing holds -/
def DL (M : Nat → Nat) (len : Int32) (ord pls bs : Nat → Int32) : Prop := len = nI (lB M (M 0)).length ∧ RO (M 0) (roM M) ord ∧ (∀ v, v < M 0 → pls v = nP (plI (roM M) v (M 0))) ∧ WB (lB M (M 0)) bs
theorem plI_pos {f : Nat → Nat} {v : Nat} : ∀ n, (∃ i, i < n ∧ f i = v) → plI f v n ≠ 0
  | 0, ⟨i, hi, _⟩ => absurd hi (Nat.not_lt_zero _)
  | n + 1, ⟨i, hi, e⟩ => by
    show (if f n = v then n + 1 else plI f v n) ≠ 0
    by_cases q : f n = v
    · rw [if_pos q]; omega
    · rw [if_neg q]
      refine plI_pos n ⟨i, ?_, e⟩
      by_cases r : i = n
      · rw [r] at e; exact absurd e q
      · omega
theorem s_workOut0 {N : Nat} {M : Nat → Nat} {len : Int32} {keys : Nat → Int64} {sizes ord pls bs : Nat → Int32} {Q : Int32 → (Nat → Int32) → (Nat → Int32) → (Nat → Int32) → Prop} (hN : 1000 < N) (hW : WF M) (hK : KV M keys) (hS : SZ M sizes) (hq : ∀ len ord pls bs, DL M len ord pls bs → Q len ord pls bs) : p_X0_workOut N len (nI (M 0)) ord keys pls bs sizes Q := by
  have h16 := hW.1
  have wr : ∀ ord, RO (M 0) (roM M) ord → ∀ n k (pls bs : Nat → Int32), k ≤ M 0 → M 0 - k < n → (∀ v, plI (roM M) v k ≠ 0 → pls v = nP (plI (roM M) v k)) → WB (lB M k) bs → p_X0_workOut_31 N (nI (M 0)) ord keys sizes (fun _ l p b => Q l ord p b) n (nI k) (nI (lB M k).length) pls bs := by
    intro ord ho n
    induction n with
    | zero => intro k pls bs h1 h2; omega
    | succ n ih =>
      intro k pls bs h1 h2 h3 h4
      unfold p_X0_workOut_31
      simp (disch := omega) only [zl, nS]
      refine ⟨fun h => ?_, fun h => ?_⟩
      · have : k = M 0 := by omega
        subst this
        refine hq _ _ _ _ ⟨rfl, ho, fun v hv => h3 v (plI_pos _ ?_), h4⟩
        obtain ⟨i, hi, e⟩ := (rk_SR (bM_TO M) trP (M 0)).2.1 v ⟨hv, trivial⟩
        rw [rk_all] at hi
        exact ⟨i, hi, e⟩
      · have hx := roM_lt (show k < M 0 by omega)
        have hlen := lB_len M k
        rw [ho k (by omega)]
        simp (disch := omega) only [nS]
        have hp : ∀ v, plI (roM M) v (k + 1) ≠ 0 → upd pls (roM M k) (nI k) v = nP (plI (roM M) v (k + 1)) := by
          intro v
          show (if roM M k = v then k + 1 else plI (roM M) v k) ≠ 0 → _ = nP (if roM M k = v then k + 1 else plI (roM M) v k)
          rw [upd_at]
          by_cases q : v = roM M k
          · rw [if_pos q, if_pos q.symm, nP_s]; exact fun _ => rfl
          · rw [if_neg q, if_neg (fun z => q z.symm)]; exact h3 v
        refine ⟨by omega, by omega, fun z => ⟨by omega, ?_⟩, fun z => ?_⟩
        · have k0 : k = 0 := by omega
          subst k0
          refine s_putVariant0 hN hW hK hS hx h4 (by omega) (fun b' h' => ?_)
          rw [← lB_0] at h' ⊢
          exact ih 1 _ b' (by omega) (by omega) hp h'
        · refine s_putB h4 (by decide) (by omega) (fun b1 g1 => s_putB g1 (by decide) (by rw [len1]; omega) (fun b2 g2 => ⟨by omega, s_putVariant0 hN hW hK hS hx g2 (by rw [len1, len1]; omega) (fun b' h' => ?_)⟩))
          rw [← lB_p (by omega)] at h' ⊢
          exact ih (k + 1) _ b' (by omega) (by omega) hp h'
  have ins : ∀ n v (ord : Nat → Int32), v ≤ M 0 → M 0 - v < n → RO v (rk (bM M) trP v).2 ord → p_X0_workOut_2 N len (nI (M 0)) keys pls bs sizes (fun _ ord => p_X0_workOut_31 N (nI (M 0)) ord keys sizes (fun _ l p b => Q l ord p b) N (nI 0) (nI 0) pls bs) n (nI v) ord := by
    intro n
    induction n with
    | zero => intro v ord h1 h2; omega
    | succ n ih =>
      intro v ord h1 h2 h3
      unfold p_X0_workOut_2
      simp (disch := omega) only [zl, nS]
      refine ⟨fun h => ?_, fun h => ?_⟩
      · have : v = M 0 := by omega
        subst this
        exact wr ord h3 N 0 pls bs (by omega) (by omega) (fun v z => absurd rfl z) (WB_0 _)
      · have p1 := (posR_p (bM M) v (rk (bM M) trP v).2 v).1
        unfold p_X0_insert
        refine s_insert_2 (f := (rk (bM M) trP v).2) hN hW hK (by omega) (fun j hj => rk_all_lt _ hj) (fun ord ho => ?_) N v ord (Nat.le_refl _) (by omega) (SF_0 h3) rfl
        simp (disch := omega) only [nS]
        refine ⟨by omega, ih (v + 1) _ (by omega) (by omega) ?_⟩
        rw [rk_all_s]
        exact RO_ins p1 ho.1 ho.2
  unfold p_X0_workOut
  simp only [zl]
  exact ins N 0 ord (by omega) (by omega) (fun j hj => absurd hj (by omega))
/-- nothing stale, or to be worked out -/
def OKD (M : Nat → Nat) (st rc : Int32) (ps ws scs tr rks ord : Nat → Int32) (ll : Int32) (lo lp lb : Nat → Int32) : Prop := st = nI 1 ∨ (st = nI 0 ∧ DR M 0 rc ps ws scs tr rks ord ∧ DL M ll lo lp lb)
theorem s_settle {N : Nat} {M : Nat → Nat} {kc st rc ll : Int32} {keys : Nat → Int64} {ranges : Nat → Int64} {sizes qs lengths names weights ties ps ws scs tr rks ord lo lp lb : Nat → Int32} {Q : Int32 → Int32 → (Nat → Int32) → (Nat → Int32) → (Nat → Int32) → (Nat → Int32) → (Nat → Int32) → (Nat → Int32) → Int32 → (Nat → Int32) → (Nat → Int32) → (Nat → Int32) → Prop} (hN : 1000 < N) (hW : WF M)
    (hST : ST M (nI (M 0)) keys sizes qs lengths ranges names weights ties) (hD : OKD M st rc ps ws scs tr rks ord ll lo lp lb) (hq : ∀ rc ps ws scs tr rks ord ll lo lp lb, DR M 0 rc ps ws scs tr rks ord → DL M ll lo lp lb → Q (nI 0) rc ps ws scs tr rks ord ll lo lp lb) : p_X5_settle N kc st rc (nI (M 0)) lengths names keys ranges ps weights ws qs scs ties sizes tr rks ord ll lo lp lb Q := by
  unfold p_X5_settle
  simp only [zl]
  rcases hD with rfl | ⟨rfl, h1, h2⟩
  · refine ⟨fun z => absurd z (by decide), fun _ => ?_⟩
    exact s_workOut (es := 0) hN hW (by decide) hST (fun rc ps ws scs tr rks ord h1 => s_workOut0 hN hW hST.2.1 hST.2.2.1 (fun ll lo lp lb h2 => hq _ _ _ _ _ _ _ _ _ _ _ h1 h2))
  · exact ⟨fun _ => hq _ _ _ _ _ _ _ _ _ _ _ h1 h2, fun z => absurd rfl z⟩


/-! the reference's counting of all places; tie ranks on both sides -/
/-- the side-0 place of kind k as tie ranks see it: 100 for none -/
def tP (M : Nat → Nat) (es k v : Nat) : Nat := if 1 = es then 100 else if plW M k v = 0 then 100 else plW M k v - 1
/-- what a rule makes of a variant; q: its quality -/
def tR (M : Nat → Nat) (es v q rule : Nat) : Int32 := if rule = 1 then nI (M (10 + 8 * v + 6)) else if rule = 2 then -nI (M (10 + 8 * v + 6)) else if rule = 3 then nI (tP M es 0 v) else if rule = 4 then nI (tP M es 1 v) else if rule = 5 then -nI q else nI 0
theorem tR_o {M : Nat → Nat} {es v q rule : Nat} (h : rule < 1 ∨ 5 < rule) : tR M es v q rule = nI 0 := by
  unfold tR
  rw [if_neg (by omega), if_neg (by omega), if_neg (by omega), if_neg (by omega), if_neg (by omega)]
/-- the class's places of variant v: cell v * 6 + l -/
def PC (M : Nat → Nat) (es v : Nat) (ps : Nat → Int32) : Prop := ∀ l, l < 6 → ps (v * 6 + l) = nP (if l / 3 + 1 = es then 0 else plW M l v)
theorem s_placeRank {N es k v : Nat} {M : Nat → Nat} {c0 : Int32} {ps : Nat → Int32} {Q : Int32 → Prop} (hW : WF M) (hP : PC M es v ps) (hk : k < 2) (hv : v < M 0) (hq : Q (nI (tP M es k v))) : p_X2_placeRank N c0 ps (nI v) (nI k) Q := by
  have h16 := hW.1
  have hpl := plW_le M k v
  have h10 := hW.2.1 k (by omega)
  unfold p_X2_placeRank
  unfold tP at hq
  simp (disch := omega) only [zl, nSm]
  refine s_slotOf (s_cellOf ?_)
  simp (disch := omega) only [nS]
  rw [show v * 6 + (0 * 3 + k) = v * 6 + k by omega, hP k (by omega), show k / 3 + 1 = 1 by omega]
  refine ⟨by omega, ?_⟩
  by_cases q : 1 = es
  · rw [if_pos q] at hq
    rw [if_pos q, nP_e (by omega)]
    exact ⟨fun z => absurd rfl z, fun _ => hq⟩
  · rw [if_neg q] at hq
    rw [if_neg q, nP_e (by omega)]
    refine ⟨fun z => ?_, fun z => ?_⟩
    · rw [if_neg z] at hq; rw [nP_p z]; exact hq
    · rw [if_pos z] at hq; exact hq
theorem s_tieRank {N es v rule : Nat} {M : Nat → Nat} {c0 c1 : Int32} {sizes ps qs : Nat → Int32} {Q : Int32 → Prop} (hW : WF M) (hS : SZ M sizes) (hP : PC M es v ps) (hQ : QL M qs) (hv : v < M 0) (hr : rule ≤ 5) (hq : Q (tR M es v (M (10 + 8 * v + 7)) rule)) : p_X2_tieRank N c0 c1 sizes ps qs (nI rule) (nI v) Q := by
  have h16 := hW.1
  unfold p_X2_tieRank
  simp (disch := omega) only [zl, nS]
  rw [hS v hv, hQ v hv]
  refine ⟨fun h => ?_, fun h => ⟨by omega, ?_⟩, fun h => ⟨by omega, ?_⟩, fun h => s_placeRank hW hP (by decide) hv ?_, fun h => s_placeRank hW hP (by decide) hv ?_, fun h => ⟨by omega, ?_⟩⟩
  · rw [tR_o (by omega)] at hq; exact hq
  · have : rule = 1 := by omega
    subst this; exact hq
  · have : rule = 2 := by omega
    subst this; exact hq
  · have : rule = 3 := by omega
    subst this; exact hq
  · have : rule = 4 := by omega
    subst this; exact hq
  · have : rule = 5 := by omega
    subst this; exact hq


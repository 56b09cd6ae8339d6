/-- behind a call: the caller's other cells and the callee's, laid in the caller's order, one look-up each -/
def vj_at (n : Nat) (ws w1 : va_W) (j : Nat) : Option (Nat × va_E) := cond (Nat.ble n j) (w1[j - n]?) (ws[j]?)
theorem vj_m {α β : Type} {f : α → Option β} {js : List α} {ws' : List β} (hm : js.map f = ws'.map some) {a : Nat} {q : β} (hq : ws'[a]? = some q) : ∃ j, js[a]? = some j ∧ f j = some q := by
  have h := congrArg (fun l => l[a]?) hm
  simp only [List.getElem?_map, hq, Option.map_some] at h
  cases hj : js[a]? with
  | none => rw [hj] at h; simp at h
  | some j => rw [hj] at h; simp only [Option.map_some, Option.some.injEq] at h; exact ⟨j, rfl, h⟩
theorem vj_pw {R : Nat → Nat → Prop} (hs : ∀ a b, R a b → R b a) : ∀ (l : List Nat), l.Pairwise R → ∀ a ∈ l, ∀ b ∈ l, a ≠ b → R a b := by
  intro l
  induction l with
  | nil => intro _ a ha; simp at ha
  | cons x l ih =>
    intro h a ha b hb hab
    rw [List.pairwise_cons] at h
    rcases List.mem_cons.mp ha with rfl | ha'
    · rcases List.mem_cons.mp hb with rfl | hb'
      · exact absurd rfl hab
      · exact h.1 b hb'
    · rcases List.mem_cons.mp hb with rfl | hb'
      · exact hs _ _ (h.1 a ha')
      · exact ih h.2 a ha' b hb' hab
theorem vj_c {n j : Nat} {ws w1 : va_W} {q : Nat × va_E} (h : vj_at n ws w1 j = some q) : (n ≤ j ∧ w1[j - n]? = some q) ∨ (j < n ∧ ws[j]? = some q) := by
  unfold vj_at at h
  by_cases hc : n ≤ j
  · left; rw [Nat.ble_eq_true_of_le hc] at h; exact ⟨hc, h⟩
  · right
    have hb : Nat.ble n j = false := by
      cases hb : Nat.ble n j with
      | true => exact absurd (Nat.le_of_ble_eq_true hb) hc
      | false => rfl
    rw [hb] at h; exact ⟨Nat.lt_of_not_le hc, h⟩
theorem vj_p {D : va_G} {cl : List vw_C} {ws w1 ws' : va_W} {H : Heap} {isR js : List Nat} {n : Nat} (hin : ∀ j ∈ js, j < n → j ∈ isR) (hm : js.map (vj_at n ws w1) = ws'.map some) (hP : va_P D cl (isR.filterMap (fun i => ws[i]?) ++ w1) H) : va_P D cl ws' H := fun k q hk => by
  obtain ⟨j, hj, hf⟩ := vj_m hm hk
  have hx : q ∈ isR.filterMap (fun i => ws[i]?) ++ w1 := by
    rcases vj_c hf with ⟨_, h⟩ | ⟨hl, h⟩
    · exact List.mem_append_right _ (List.mem_of_getElem? h)
    · exact List.mem_append_left _ (List.mem_filterMap.mpr ⟨j, hin j (List.mem_of_getElem? hj) hl, h⟩)
  obtain ⟨k', hk'⟩ := List.mem_iff_getElem?.mp hx
  exact hP k' q hk'
theorem vj_d {A : Nat → Prop} {ws w1 ws' : va_W} {isR js : List Nat} {n : Nat} (hn : va_nd js = true) (hin : ∀ j ∈ js, j < n → j ∈ isR) (hm : js.map (vj_at n ws w1) = ws'.map some) (hD : va_D A (isR.filterMap (fun i => ws[i]?) ++ w1)) : va_D A ws' := by
  have hpw : (isR.filterMap (fun i => ws[i]?) ++ w1).Pairwise (fun p q => p.1 ≠ q.1) := by
    rw [List.pairwise_iff_getElem]
    intro i j hi hj hij he
    exact absurd (hD.1 i j _ _ (List.getElem?_eq_getElem hi) (List.getElem?_eq_getElem hj) he) (Nat.ne_of_lt hij)
  rw [List.pairwise_append] at hpw
  obtain ⟨h1, h2, h3⟩ := hpw
  rw [List.pairwise_filterMap] at h1
  have h1' := vj_pw (fun a b h p hp q hq e => h q hq p hp e.symm) isR h1
  rw [List.pairwise_iff_getElem] at h2
  have key : ∀ j ∈ js, ∀ j' ∈ js, j ≠ j' → ∀ p q, vj_at n ws w1 j = some p → vj_at n ws w1 j' = some q → p.1 ≠ q.1 := by
    intro j hj j' hj' hne p q hp hq
    rcases vj_c hp with ⟨a1, b1⟩ | ⟨a1, b1⟩ <;> rcases vj_c hq with ⟨a2, b2⟩ | ⟨a2, b2⟩
    · obtain ⟨l1, e1⟩ := List.getElem?_eq_some_iff.mp b1
      obtain ⟨l2, e2⟩ := List.getElem?_eq_some_iff.mp b2
      rcases Nat.lt_or_gt_of_ne (show j - n ≠ j' - n by omega) with h | h
      · have := h2 _ _ l1 l2 h; rw [e1, e2] at this; exact this
      · have := h2 _ _ l2 l1 h; rw [e1, e2] at this; exact this.symm
    · exact (h3 q (List.mem_filterMap.mpr ⟨j', hin j' hj' a2, b2⟩) p (List.mem_of_getElem? b1)).symm
    · exact h3 p (List.mem_filterMap.mpr ⟨j, hin j hj a1, b1⟩) q (List.mem_of_getElem? b2)
    · exact h1' j (hin j hj a1) j' (hin j' hj' a2) hne p b1 q b2
  refine ⟨fun a b p q hp hq he => ?_, fun k q hk => ?_⟩
  · obtain ⟨j, hj, hf⟩ := vj_m hm hp
    obtain ⟨j', hj', hf'⟩ := vj_m hm hq
    by_cases hjj : j = j'
    · subst hjj; exact va_nd_inj js hn a b j hj hj'
    · exact absurd he (key j (List.mem_of_getElem? hj) j' (List.mem_of_getElem? hj') hjj p q hf hf')
  · obtain ⟨j, hj, hf⟩ := vj_m hm hk
    have hx : q ∈ isR.filterMap (fun i => ws[i]?) ++ w1 := by
      rcases vj_c hf with ⟨_, h⟩ | ⟨hl, h⟩
      · exact List.mem_append_right _ (List.mem_of_getElem? h)
      · exact List.mem_append_left _ (List.mem_filterMap.mpr ⟨j, hin j (List.mem_of_getElem? hj) hl, h⟩)
    obtain ⟨k', hk'⟩ := List.mem_iff_getElem?.mp hx
    exact hD.2 k' q hk'
theorem vj_all {ws : va_W} {isC isR : List Nat} (n : Nat) (h : ws.length = n) (hd : (List.range n).all (fun i => isC.contains i || isR.contains i) = true) : (List.range ws.length).all (fun i => isC.contains i || isR.contains i) = true := h ▸ hd
section VJ1
variable {p : Program} {l : Launch} {e : Env} {R : Room} {s : State} {m : MethodId} {args : Array Value} {below : List Frame} {meth : Method} {c : Code} {cells slots : Nat} {Q : State → Prop} {nL : Nat} {D : va_G} {A : Nat → Prop} {ws : va_W} {pc : Nat} {lv : List (Nat × Value)}
theorem v_afterJ {ws' w1 : va_W} {isR : List Nat} {st st' : List Value} {ce sl : Nat} (n : Nat) (js : List Nat) (hn : va_nd js = true) (hin : ∀ j ∈ js, j < n → j ∈ isR) (hm : js.map (vj_at n ws w1) = ws'.map some) (hst : st = st') (hc : cells = ce ∧ slots = sl) (k : vV p l e R s m args below meth c Q nL D A (ce) (sl) (ws') (pc) lv (st')) : vV p l e R s m args below meth c Q nL D A (cells) (slots) (isR.filterMap (fun i => ws[i]?) ++ w1) (pc) lv (st) := fun H L ls hP hD hS h => by
  obtain ⟨rfl, rfl⟩ := hc
  subst hst
  exact k H L ls (vj_p hin hm hP) (vj_d hn hin hm hD) hS h
theorem v_permJ {ws' w1 : va_W} {isR : List Nat} {st : List Value} {E : String} {ce sl : Nat} (n : Nat) (js : List Nat) (hn : va_nd js = true) (hin : ∀ j ∈ js, j < n → j ∈ isR) (hm : js.map (vj_at n ws w1) = ws'.map some) (hc : cells = ce ∧ slots = sl) (k : vE p l e R s m args below meth c Q nL D A ce sl ws' pc lv st E) : vE p l e R s m args below meth c Q nL D A cells slots (isR.filterMap (fun i => ws[i]?) ++ w1) pc lv st E := by
  obtain ⟨rfl, rfl⟩ := hc
  exact fun H L ls q ce hP hD hS h => k H L ls q ce (vj_p hin hm hP) (vj_d hn hin hm hD) hS h
end VJ1

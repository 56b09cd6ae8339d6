/-! the state of a desk as one value: the cells M, the pages for undo, how many there are, the text's length and bytes -/
abbrev DS : Type := (Nat → Nat) × (Nat → Nat → Nat) × Nat × Nat × (Nat → Nat)
def zM (z : DS) : Nat → Nat := z.1
def zS (z : DS) : Nat → Nat → Nat := z.2.1
def zc (z : DS) : Nat := z.2.2.1
def zt (z : DS) : Nat := z.2.2.2.1
def zb (z : DS) : Nat → Nat := z.2.2.2.2
def INV (z : DS) : Prop := WF (zM z) ∧ KW (zc z) (zS z) ∧ zc z ≤ 4 ∧ zt z ≤ 120 ∧ ∀ j, zb z j < 128
def psh (z : DS) (M' : Nat → Nat) : DS := (M', nx (zc z) (zS z) (zM z), cx (zc z), zt z, zb z)
def txt (z : DS) (n : Nat) (b : Nat → Nat) : DS := (zM z, zS z, zc z, n, b)
def pop (z : DS) : DS := (zS z (zc z - 1), zS z, zc z - 1, zt z, zb z)
abbrev iv (n : Nat) (x : Int32) : Prop := 0 ≤ x.toInt ∧ x.toInt < (n : Int)
theorem tn_I {v : Nat} (h : v < 2147483648) : (nI v).toNatClampNeg = v := nI_clamp h
theorem iv_I {n v : Nat} (h : v < n) (hv : v < 2147483648) : iv n (nI v) := by
  unfold iv
  rw [nI_t hv]
  omega
theorem iv_ge {n v : Nat} (h : n ≤ v) (hv : v < 2147483648) : ¬ iv n (nI v) := by
  unfold iv
  rw [nI_t hv]
  omega
theorem iv_no {n : Nat} {x : Int32} (h : ∀ v, v < n → x ≠ nI v) : ¬ iv n x := fun q => by
  rcases i32 x with e | ⟨v, hv, rfl⟩
  · have := q.1
    omega
  · have := q.2
    rw [nI_t hv] at this
    exact h v (by omega) rfl
theorem iv_ex {n : Nat} {x : Int32} (h : iv n x) : ∃ v, v < n ∧ v < 2147483648 ∧ x = nI v := by
  rcases i32 x with e | ⟨v, hv, rfl⟩
  · have := h.1
    omega
  · have := h.2
    rw [nI_t hv] at this
    exact ⟨v, by omega, hv, rfl⟩
abbrev ie (z : DS) (x1 x2 x3 : Int32) : Prop := (iv 2 x1 ∧ iv 3 x2) ∧ iv (zM z (4 + (3 * x1.toNatClampNeg + x2.toNatClampNeg))) x3
theorem ie_no {z : DS} {x1 x2 x3 : Int32} (h : ∀ l e, ¬ isE (zM z) x1 x2 x3 l e) : ¬ ie z x1 x2 x3 := fun ⟨⟨q1, q2⟩, q3⟩ => by
  obtain ⟨s, hs, hs', rfl⟩ := iv_ex q1
  obtain ⟨k, hk, hk', rfl⟩ := iv_ex q2
  obtain ⟨e, he, he', rfl⟩ := iv_ex q3
  rw [tn_I hs', tn_I hk'] at he
  exact h (3 * s + k) e ⟨by omega, he, s, k, hs, hk, rfl, rfl, rfl, rfl⟩
theorem ie_I {z : DS} {x1 x2 x3 : Int32} {l e : Nat} (hW : WF (zM z)) (h : isE (zM z) x1 x2 x3 l e) : ie z x1 x2 x3 ∧ 3 * x1.toNatClampNeg + x2.toNatClampNeg = l ∧ x3.toNatClampNeg = e := by
  obtain ⟨hl, he, s, k, hs, hk, el, rfl, rfl, rfl⟩ := h
  have h10 := hW.2.1 l hl
  have e1 := tn_I (v := s) (by omega)
  have e2 := tn_I (v := k) (by omega)
  have e3 := tn_I (v := e) (by omega)
  refine ⟨⟨⟨iv_I hs (by omega), iv_I hk (by omega)⟩, ?_⟩, by rw [e1, e2]; exact el.symm, e3⟩
  rw [e1, e2, ← el]
  exact iv_I he (by omega)
/-! what the asking calls answer -/
noncomputable def q_variant (z : DS) (x1 x2 : Int32) : Int32 := if iv (zM z 0) x1 then (if iv 7 x2 then vlV (zM z) x1.toNatClampNeg x2.toNatClampNeg else (-90100)) else (-90300)
noncomputable def q_weight (z : DS) (x1 x2 x3 : Int32) : Int32 := if (iv 2 x1 ∧ iv 3 x2) ∧ iv (zM z 0) x3 then nI (wE (zM z) 0 (x1.toNatClampNeg * 3 + x2.toNatClampNeg) x3.toNatClampNeg) else (-90300)
noncomputable def q_counting (z : DS) (x1 x2 x3 : Int32) : Int32 := if (iv 2 x1 ∧ iv 3 x2) ∧ iv (zM z 0) x3 then nP (plW (zM z) (x1.toNatClampNeg * 3 + x2.toNatClampNeg) x3.toNatClampNeg) else (-90300)
noncomputable def q_entry (z : DS) (x1 x2 x3 x4 : Int32) : Int32 := if ie z x1 x2 x3 then (if iv 4 x4 then nI (eV (zM z) (3 * x1.toNatClampNeg + x2.toNatClampNeg) x3.toNatClampNeg x4.toNatClampNeg) else (-90100)) else (-90300)
noncomputable def q_ranked (z : DS) (x : Int32) : Int32 := if 0 ≤ x.toInt then (if x.toNatClampNeg < (rkM (zM z) 0 0).1 then nI ((rkM (zM z) 0 0).2 x.toNatClampNeg) else nM) else (-90100)
noncomputable def q_listed (z : DS) (x : Int32) : Int32 := if 0 ≤ x.toInt then (if x.toNatClampNeg < zM z 0 then nI (roM (zM z) x.toNatClampNeg) else nM) else (-90100)
noncomputable def q_listingByte (z : DS) (x : Int32) : Int32 := if 0 ≤ x.toInt then (if x.toNatClampNeg < (lB (zM z) (zM z 0)).length then nI (gB (lB (zM z) (zM z 0)) x.toNatClampNeg) else nM) else (-90100)
noncomputable def q_whole (z : DS) (x : Int32) : Int32 := if iv 11 x then wV (zM z) (zt z) x.toNatClampNeg else (-90100)
noncomputable def q_servedFor (z : DS) (x : Int32) : Int32 := if iv 2 x then nP (fiM (zM z) (2 - x.toNatClampNeg) 0) else (-90300)
noncomputable def q_servedWithout (z : DS) (x : Int32) : Int32 := if iv (zM z 0) x then nP (fiM (zM z) 0 (x.toNatClampNeg + 1)) else (-90300)
noncomputable def q_leastWeight (z : DS) (x1 x2 x3 x4 : Int32) : Int32 := if ie z x1 x2 x3 ∧ iv (zM z 0) x4 then nP (lsM (PS (zM z) (ec (3 * x1.toNatClampNeg + x2.toNatClampNeg) x3.toNatClampNeg + 3) x4.toNatClampNeg)) else (-90300)
noncomputable def q_leastQuality (z : DS) (x : Int32) : Int32 := if iv (zM z 0) x then nP (lsM (PS (zM z) (10 + 8 * x.toNatClampNeg + 7) x.toNatClampNeg)) else (-90300)
def q_listFault (z : DS) (x : Int32) : Int32 := if iv 3 x then fault (lsW (zb z) (zt z) x.toNatClampNeg) else (-90300)
def q_variantFault (z : DS) : Int32 := faultV (vsW (zb z) (zt z))
noncomputable def q_agree (z : DS) : Int32 := if nP (fiM (zM z) 2 0) = nP (fiM (zM z) 1 0) then nI 1 else nI 0
noncomputable def q_digest (z : DS) : Int64 := dgM (zM z) (zt z) (zc z)
theorem q_variant_no {z : DS} {x1 x2 : Int32} (h : ∀ v, v < zM z 0 → x1 ≠ nI v) : q_variant z x1 x2 = (-90300) := if_neg (iv_no h)
theorem q_variant_wh {z : DS} {x1 x2 : Int32} {v : Nat} (hW : WF (zM z)) (hv : v < zM z 0) (e : x1 = nI v) (h : ∀ w, w ≤ 6 → x2 ≠ nI w) : q_variant z x1 x2 = (-90100) := by
  have := hW.1
  subst e
  exact (if_pos (iv_I hv (by omega))).trans (if_neg (iv_no (fun w hw => h w (by omega))))
theorem q_variant_ok {z : DS} {v w : Nat} (hW : WF (zM z)) (hv : v < zM z 0) (hw : w ≤ 6) : q_variant z (nI v) (nI w) = vlV (zM z) v w := by
  have := hW.1
  unfold q_variant
  rw [if_pos (iv_I hv (by omega)), if_pos (iv_I (by omega) (by omega)), tn_I (by omega), tn_I (by omega)]
theorem q_weight_no {z : DS} {x1 x2 x3 : Int32} (h : ¬ isL x1 x2) : q_weight z x1 x2 x3 = (-90300) := if_neg (fun q => by
  obtain ⟨s, hs, hs', rfl⟩ := iv_ex q.1.1
  obtain ⟨l, hl, hl', rfl⟩ := iv_ex q.1.2
  exact h ⟨s, l, hs, hl, rfl, rfl⟩)
theorem q_weight_no2 {z : DS} {x1 x2 x3 : Int32} (h : ∀ v, v < zM z 0 → x3 ≠ nI v) : q_weight z x1 x2 x3 = (-90300) := if_neg (fun q => iv_no h q.2)
theorem q_weight_ok {z : DS} {s l v : Nat} (hW : WF (zM z)) (hs : s < 2) (hl : l < 3) (hv : v < zM z 0) : q_weight z (nI s) (nI l) (nI v) = nI (wE (zM z) 0 (s * 3 + l) v) := by
  have := hW.1
  unfold q_weight
  rw [if_pos ⟨⟨iv_I hs (by omega), iv_I hl (by omega)⟩, iv_I hv (by omega)⟩, tn_I (by omega), tn_I (by omega), tn_I (by omega)]
theorem q_counting_no {z : DS} {x1 x2 x3 : Int32} (h : ¬ isL x1 x2) : q_counting z x1 x2 x3 = (-90300) := if_neg (fun q => by
  obtain ⟨s, hs, hs', rfl⟩ := iv_ex q.1.1
  obtain ⟨l, hl, hl', rfl⟩ := iv_ex q.1.2
  exact h ⟨s, l, hs, hl, rfl, rfl⟩)
theorem q_counting_no2 {z : DS} {x1 x2 x3 : Int32} (h : ∀ v, v < zM z 0 → x3 ≠ nI v) : q_counting z x1 x2 x3 = (-90300) := if_neg (fun q => iv_no h q.2)
theorem q_counting_ok {z : DS} {s l v : Nat} (hW : WF (zM z)) (hs : s < 2) (hl : l < 3) (hv : v < zM z 0) : q_counting z (nI s) (nI l) (nI v) = nP (plW (zM z) (s * 3 + l) v) := by
  have := hW.1
  unfold q_counting
  rw [if_pos ⟨⟨iv_I hs (by omega), iv_I hl (by omega)⟩, iv_I hv (by omega)⟩, tn_I (by omega), tn_I (by omega), tn_I (by omega)]
theorem q_entry_no {z : DS} {x1 x2 x3 x4 : Int32} (h : ∀ l e, ¬ isE (zM z) x1 x2 x3 l e) : q_entry z x1 x2 x3 x4 = (-90300) := if_neg (ie_no h)
theorem q_entry_wh {z : DS} {x1 x2 x3 x4 : Int32} {l e : Nat} (hW : WF (zM z)) (h : isE (zM z) x1 x2 x3 l e) (h2 : ∀ w, w ≤ 3 → x4 ≠ nI w) : q_entry z x1 x2 x3 x4 = (-90100) := (if_pos (ie_I hW h).1).trans (if_neg (iv_no (fun w hw => h2 w (by omega))))
theorem q_entry_ok {z : DS} {x1 x2 x3 : Int32} {l e w : Nat} (hW : WF (zM z)) (h : isE (zM z) x1 x2 x3 l e) (hw : w ≤ 3) : q_entry z x1 x2 x3 (nI w) = nI (eV (zM z) l e w) := by
  obtain ⟨h1, h2, h3⟩ := ie_I hW h
  unfold q_entry
  rw [if_pos h1, if_pos (iv_I (by omega) (by omega)), tn_I (v := w) (by omega), h2, h3]
theorem q_ranked_no {z : DS} {x : Int32} (h : ∀ p, p < 2147483648 → x ≠ nI p) : q_ranked z x = (-90100) := if_neg (fun q => by
  rcases i32 x with e | ⟨v, hv, e⟩
  · omega
  · exact h v hv e)
theorem q_ranked_ok {z : DS} {p : Nat} (hp : p < 2147483648) : q_ranked z (nI p) = if p < (rkM (zM z) 0 0).1 then nI ((rkM (zM z) 0 0).2 p) else nM := by
  unfold q_ranked
  rw [if_pos (by rw [nI_t hp]; omega), tn_I hp]
theorem q_listed_no {z : DS} {x : Int32} (h : ∀ p, p < 2147483648 → x ≠ nI p) : q_listed z x = (-90100) := if_neg (fun q => by
  rcases i32 x with e | ⟨v, hv, e⟩
  · omega
  · exact h v hv e)
theorem q_listed_ok {z : DS} {p : Nat} (hp : p < 2147483648) : q_listed z (nI p) = if p < zM z 0 then nI (roM (zM z) p) else nM := by
  unfold q_listed
  rw [if_pos (by rw [nI_t hp]; omega), tn_I hp]
theorem q_listingByte_no {z : DS} {x : Int32} (h : ∀ p, p < 2147483648 → x ≠ nI p) : q_listingByte z x = (-90100) := if_neg (fun q => by
  rcases i32 x with e | ⟨v, hv, e⟩
  · omega
  · exact h v hv e)
theorem q_listingByte_ok {z : DS} {p : Nat} (hp : p < 2147483648) : q_listingByte z (nI p) = if p < (lB (zM z) (zM z 0)).length then nI (gB (lB (zM z) (zM z 0)) p) else nM := by
  unfold q_listingByte
  rw [if_pos (by rw [nI_t hp]; omega), tn_I hp]
theorem q_whole_no {z : DS} {x : Int32} (h : ∀ w, w ≤ 10 → x ≠ nI w) : q_whole z x = (-90100) := if_neg (iv_no (fun w hw => h w (by omega)))
theorem q_whole_ok {z : DS} {w : Nat} (hw : w ≤ 10) : q_whole z (nI w) = wV (zM z) (zt z) w := by
  unfold q_whole
  rw [if_pos (iv_I (by omega) (by omega)), tn_I (by omega)]
theorem q_servedFor_no {z : DS} {x : Int32} (h : ∀ s, s ≤ 1 → x ≠ nI s) : q_servedFor z x = (-90300) := if_neg (iv_no (fun w hw => h w (by omega)))
theorem q_servedFor_ok {z : DS} {s : Nat} (hs : s ≤ 1) : q_servedFor z (nI s) = nP (fiM (zM z) (2 - s) 0) := by
  unfold q_servedFor
  rw [if_pos (iv_I (by omega) (by omega)), tn_I (by omega)]
theorem q_servedWithout_no {z : DS} {x : Int32} (h : ∀ v, v < zM z 0 → x ≠ nI v) : q_servedWithout z x = (-90300) := if_neg (iv_no h)
theorem q_servedWithout_ok {z : DS} {v : Nat} (hW : WF (zM z)) (hv : v < zM z 0) : q_servedWithout z (nI v) = nP (fiM (zM z) 0 (v + 1)) := by
  have := hW.1
  unfold q_servedWithout
  rw [if_pos (iv_I hv (by omega)), tn_I (by omega)]
theorem q_leastWeight_no {z : DS} {x1 x2 x3 x4 : Int32} (h : ∀ l e, ¬ isE (zM z) x1 x2 x3 l e) : q_leastWeight z x1 x2 x3 x4 = (-90300) := if_neg (fun q => ie_no h q.1)
theorem q_leastWeight_no2 {z : DS} {x1 x2 x3 x4 : Int32} (h : ∀ v, v < zM z 0 → x4 ≠ nI v) : q_leastWeight z x1 x2 x3 x4 = (-90300) := if_neg (fun q => iv_no h q.2)
theorem q_leastWeight_ok {z : DS} {x1 x2 x3 : Int32} {l e v : Nat} (hW : WF (zM z)) (h : isE (zM z) x1 x2 x3 l e) (hv : v < zM z 0) : q_leastWeight z x1 x2 x3 (nI v) = nP (lsM (PS (zM z) (ec l e + 3) v)) := by
  have := hW.1
  obtain ⟨h1, h2, h3⟩ := ie_I hW h
  unfold q_leastWeight
  rw [if_pos ⟨h1, iv_I hv (by omega)⟩, tn_I (v := v) (by omega), h2, h3]
theorem q_leastQuality_no {z : DS} {x : Int32} (h : ∀ v, v < zM z 0 → x ≠ nI v) : q_leastQuality z x = (-90300) := if_neg (iv_no h)
theorem q_leastQuality_ok {z : DS} {v : Nat} (hW : WF (zM z)) (hv : v < zM z 0) : q_leastQuality z (nI v) = nP (lsM (PS (zM z) (10 + 8 * v + 7) v)) := by
  have := hW.1
  unfold q_leastQuality
  rw [if_pos (iv_I hv (by omega)), tn_I (by omega)]
theorem q_listFault_no {z : DS} {x : Int32} (h : ∀ l, l < 3 → x ≠ nI l) : q_listFault z x = (-90300) := if_neg (iv_no h)
theorem q_listFault_ok {z : DS} {l : Nat} (hl : l < 3) : q_listFault z (nI l) = fault (lsW (zb z) (zt z) l) := by
  unfold q_listFault
  rw [if_pos (iv_I hl (by omega)), tn_I (by omega)]
/-! what the changing calls do -/
def S_type (z : DS) (x r : Int32) (z' : DS) : Prop := ((∀ v, v ≤ 127 → x ≠ nI v) ∧ r = (-90100) ∧ z' = z) ∨ (∃ v, v ≤ 127 ∧ x = nI v ∧ zt z = 120 ∧ r = (-90200) ∧ z' = z) ∨ (∃ v, v ≤ 127 ∧ x = nI v ∧ zt z < 120 ∧ r = nI (zt z + 1) ∧ z' = txt z (zt z + 1) (put1 (zb z) (zt z) v))
def S_clearText (z : DS) (r : Int32) (z' : DS) : Prop := r = nI (zt z) ∧ z' = txt z 0 (zb z)
def S_takeList (z : DS) (x1 x2 r : Int32) (z' : DS) : Prop := (¬ isL x1 x2 ∧ r = (-90300) ∧ z' = z) ∨ (∃ s l, s < 2 ∧ l < 3 ∧ x1 = nI s ∧ x2 = nI l ∧ (lsW (zb z) (zt z) l).1 = 0 ∧ r = -nI 10 - nI (lsW (zb z) (zt z) l).2.1 ∧ z' = z) ∨ (∃ s l, s < 2 ∧ l < 3 ∧ x1 = nI s ∧ x2 = nI l ∧ (lsW (zb z) (zt z) l).1 = 1 ∧ r = nI (lsW (zb z) (zt z) l).2.2.1 ∧ z' = psh z (setL (zM z) (s * 3 + l) (lsW (zb z) (zt z) l).2.2.1 (lsW (zb z) (zt z) l).2.2.2))
def S_addVariant (z : DS) (r : Int32) (z' : DS) : Prop := ((vsW (zb z) (zt z)).1 = 0 ∧ r = -nI 10 - nI (vsW (zb z) (zt z)).2.1 ∧ z' = z) ∨ ((vsW (zb z) (zt z)).1 = 1 ∧ (zM z 0 = 16 ∨ ∃ v, v < zM z 0 ∧ tw (zM z) (VC (zb z) (zt z)) v) ∧ r = (-90200) ∧ z' = z) ∨ ((vsW (zb z) (zt z)).1 = 1 ∧ zM z 0 < 16 ∧ (∀ v, v < zM z 0 → ¬ tw (zM z) (VC (zb z) (zt z)) v) ∧ r = nI (zM z 0) ∧ z' = psh z (addV (zM z) (VC (zb z) (zt z)) (vsW (zb z) (zt z)).2.2))
def S_removeVariant (z : DS) (x r : Int32) (z' : DS) : Prop := ((∀ v, v < zM z 0 → x ≠ nI v) ∧ r = (-90300) ∧ z' = z) ∨ (∃ v, v < zM z 0 ∧ x = nI v ∧ r = nI (zM z 0 - 1) ∧ z' = psh z (remV (zM z) v))
def S_setQuality (z : DS) (x1 x2 r : Int32) (z' : DS) : Prop := ((∀ v, v < zM z 0 → x1 ≠ nI v) ∧ r = (-90300) ∧ z' = z) ∨ (∃ v, v < zM z 0 ∧ x1 = nI v ∧ (∀ x, x ≤ 1000 → x2 ≠ nI x) ∧ r = (-90100) ∧ z' = z) ∨ (∃ v x, v < zM z 0 ∧ x1 = nI v ∧ x ≤ 1000 ∧ x2 = nI x ∧ r = nI (zM z (10 + 8 * v + 7)) ∧ z' = psh z (setC (zM z) (10 + 8 * v + 7) x))
def S_setSize (z : DS) (x1 x2 r : Int32) (z' : DS) : Prop := ((∀ v, v < zM z 0 → x1 ≠ nI v) ∧ r = (-90300) ∧ z' = z) ∨ (∃ v, v < zM z 0 ∧ x1 = nI v ∧ (∀ x, x ≤ 999999 → x2 ≠ nI x) ∧ r = (-90100) ∧ z' = z) ∨ (∃ v x, v < zM z 0 ∧ x1 = nI v ∧ x ≤ 999999 ∧ x2 = nI x ∧ r = nI (zM z (10 + 8 * v + 6)) ∧ z' = psh z (setC (zM z) (10 + 8 * v + 6) x))
def S_setWeight (z : DS) (x1 x2 x3 x4 r : Int32) (z' : DS) : Prop := ((∀ l e, ¬ isE (zM z) x1 x2 x3 l e) ∧ r = (-90300) ∧ z' = z) ∨ (∃ l e, isE (zM z) x1 x2 x3 l e ∧ (∀ x, x ≤ 1000 → x4 ≠ nI x) ∧ r = (-90100) ∧ z' = z) ∨ (∃ l e x, isE (zM z) x1 x2 x3 l e ∧ x ≤ 1000 ∧ x4 = nI x ∧ r = nI (zM z (ec l e + 3)) ∧ z' = psh z (setC (zM z) (ec l e + 3) x))
def S_removeEntry (z : DS) (x1 x2 x3 r : Int32) (z' : DS) : Prop := ((∀ l e, ¬ isE (zM z) x1 x2 x3 l e) ∧ r = (-90300) ∧ z' = z) ∨ (∃ l e, isE (zM z) x1 x2 x3 l e ∧ r = nI (zM z (4 + l) - 1) ∧ z' = psh z (remE (zM z) l e))
def S_swapSides (z : DS) (r : Int32) (z' : DS) : Prop := r = nI (zM z 7 + zM z 8 + zM z 9) ∧ z' = psh z (swpS (zM z))
def S_setTies (z : DS) (x1 x2 x3 r : Int32) (z' : DS) : Prop := ((∀ a b d, a ≤ 5 → b ≤ 5 → d ≤ 5 → ¬ (x1 = nI a ∧ x2 = nI b ∧ x3 = nI d)) ∧ r = (-90100) ∧ z' = z) ∨ (∃ a b d, a ≤ 5 ∧ b ≤ 5 ∧ d ≤ 5 ∧ x1 = nI a ∧ x2 = nI b ∧ x3 = nI d ∧ r = nI (100 * zM z 1 + 10 * zM z 2 + zM z 3) ∧ z' = psh z (setT (zM z) a b d))
def S_undo (z : DS) (r : Int32) (z' : DS) : Prop := (zc z = 0 ∧ r = (-90200) ∧ z' = z) ∨ (0 < zc z ∧ r = nI (zc z - 1) ∧ z' = pop z)

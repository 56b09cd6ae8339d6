/-! the calls that change the state: the class, as the law makes them -/
theorem s_isRule {N : Nat} {x : Int32} {Q : Int32 → Prop} (h1 : ∀ v, v ≤ 5 → x = nI v → Q (nI 1)) (h0 : (∀ v, v ≤ 5 → x ≠ nI v) → Q (nI 0)) : p_X5_isRule N x Q := by
  unfold p_X5_isRule
  simp only [zl]
  rcases i32 x with e | ⟨v, hv, rfl⟩
  · obtain ⟨e1, e2, e3, e4⟩ := i32_n e
    exact ⟨fun _ => h0 (fun v hv => e2 v (by omega)), fun z => absurd (by rw [e1]; trivial) z⟩
  · simp (disch := omega) only [nS]
    refine ⟨fun z => absurd z (by omega), fun _ => ⟨fun z => h0 (fun w hw q => ?_), fun z => h1 v (by omega) rfl⟩⟩
    rw [show (nI v = nI w) = (v = w) from nS.2.2.2.2.2.2.2.2.2.1 v w hv (by omega)] at q
    omega
theorem s_L_removeVariant {N c : Nat} {SV : Nat → Nat → Nat} {M : Nat → Nat} {st : Int32} {ka ra : Nat → Int64} {sa qa la na wa ta : Nat → Int32} {v0 : Int32} {k0 r0 : Nat → Int64} {s0 q0 l0 n0 w0 t0 : Nat → Int32} {v1 : Int32} {k1 r1 : Nat → Int64} {s1 q1 l1 n1 w1 t1 : Nat → Int32} {v2 : Int32} {k2 r2 : Nat → Int64} {s2 q2 l2 n2 w2 t2 : Nat → Int32} {v3 : Int32} {k3 r3 : Nat → Int64} {s3 q3 l3 n3 w3 t3 : Nat → Int32}  {ou : Nat → Int64} {Q : Int32 → Int32 → Int32 → Int32 → Int32 → (Nat → Int64) → (Nat → Int32) → (Nat → Int32) → (Nat → Int32) → (Nat → Int64) → (Nat → Int32) → (Nat → Int32) → (Nat → Int32) → (Nat → Int64) → (Nat → Int32) → (Nat → Int32) → Int32 → (Nat → Int64) → (Nat → Int32) → (Nat → Int32) → (Nat → Int32) → (Nat → Int64) → (Nat → Int32) → (Nat → Int32) → (Nat → Int32) → Int32 → (Nat → Int64) → (Nat → Int32) → (Nat → Int32) → (Nat → Int32) → (Nat → Int64) → (Nat → Int32) → (Nat → Int32) → (Nat → Int32) → Int32 → (Nat → Int64) → (Nat → Int32) → (Nat → Int32) → (Nat → Int32) → (Nat → Int64) → (Nat → Int32) → (Nat → Int32) → (Nat → Int32) → (Nat → Int64) → Prop} {x1 : Int32} (hN : 1000 < N) (hc : c ≤ 4) (hW : WF M) (hn : ST M (nI (M 0)) ka sa qa la ra na wa ta) (hk : IK c SV v0 k0 s0 q0 l0 r0 n0 w0 t0 v1 k1 s1 q1 l1 r1 n1 w1 t1 v2 k2 s2 q2 l2 r2 n2 w2 t2 v3 k3 s3 q3 l3 r3 n3 w3 t3)
    (hbad : (∀ v, v < M 0 → x1 ≠ nI v) → Q (nI 1) (nI c) st (nI (M 0)) v0 k0 s0 q0 l0 r0 n0 w0 t0 ka sa qa v1 k1 s1 q1 l1 r1 n1 w1 t1 v2 k2 s2 q2 l2 r2 n2 w2 t2 v3 k3 s3 q3 l3 r3 n3 w3 t3 ou)
    (hok : ∀ v, v < M 0 → x1 = nI v → ∀ (vx0 : Int32) (kx0 rx0 : Nat → Int64) (sx0 qx0 lx0 nx0 wx0 tx0 : Nat → Int32) (vx1 : Int32) (kx1 rx1 : Nat → Int64) (sx1 qx1 lx1 nx1 wx1 tx1 : Nat → Int32) (vx2 : Int32) (kx2 rx2 : Nat → Int64) (sx2 qx2 lx2 nx2 wx2 tx2 : Nat → Int32) (vx3 : Int32) (kx3 rx3 : Nat → Int64) (sx3 qx3 lx3 nx3 wx3 tx3 : Nat → Int32), IK (cx c) (nx c SV M) vx0 kx0 sx0 qx0 lx0 rx0 nx0 wx0 tx0 vx1 kx1 sx1 qx1 lx1 rx1 nx1 wx1 tx1 vx2 kx2 sx2 qx2 lx2 rx2 nx2 wx2 tx2 vx3 kx3 sx3 qx3 lx3 rx3 nx3 wx3 tx3 → ∀ (ky : Nat → Int64) (sz ql : Nat → Int32), ST (remV M v) (nI (M 0 - 1)) ky sz ql la ra na wa ta → Q (nI 0) (nI (cx c)) (nI 1) (nI (M 0 - 1)) vx0 kx0 sx0 qx0 lx0 rx0 nx0 wx0 tx0 ky sz ql vx1 kx1 sx1 qx1 lx1 rx1 nx1 wx1 tx1 vx2 kx2 sx2 qx2 lx2 rx2 nx2 wx2 tx2 vx3 kx3 sx3 qx3 lx3 rx3 nx3 wx3 tx3 (vp_updL ou 0 (nI (M 0 - 1)).toInt64)) : p_L_removeVariant N (nI c) st (nI (M 0)) v0 k0 s0 q0 l0 r0 n0 w0 t0 ka sa qa la ra na wa ta v1 k1 s1 q1 l1 r1 n1 w1 t1 v2 k2 s2 q2 l2 r2 n2 w2 t2 v3 k3 s3 q3 l3 r3 n3 w3 t3 ou x1 Q := by
  unfold p_L_removeVariant p_X5_removeVariant
  simp (disch := omega) only [zl, nS]
  have h16 := hW.1
  refine s_hasVariant h16 (fun v hv e => ⟨fun _ => ?_, fun z => absurd z (by decide)⟩) (fun e => ⟨fun z => absurd rfl z, fun _ => fun _ => hbad e⟩)
  subst e
  refine s_save hc hW hn hk (fun vx0 kx0 sx0 qx0 lx0 rx0 nx0 wx0 tx0 vx1 kx1 sx1 qx1 lx1 rx1 nx1 wx1 tx1 vx2 kx2 sx2 qx2 lx2 rx2 nx2 wx2 tx2 vx3 kx3 sx3 qx3 lx3 rx3 nx3 wx3 tx3 hx => ?_)
  refine s_dropVariant hN h16 hv (fun ky sz ql h1 h2 h3 => ?_)
  exact hok v hv rfl _ _ _ _ _ _ _ _ _ _ _ _ _ _ _ _ _ _ _ _ _ _ _ _ _ _ _ _ _ _ _ _ _ _ _ _ hx ky sz ql (remV_ST hW hn hv h1 h2 h3)
theorem s_L_setQuality {N c : Nat} {SV : Nat → Nat → Nat} {M : Nat → Nat} {st : Int32} {ka ra : Nat → Int64} {sa qa la na wa ta : Nat → Int32} {v0 : Int32} {k0 r0 : Nat → Int64} {s0 q0 l0 n0 w0 t0 : Nat → Int32} {v1 : Int32} {k1 r1 : Nat → Int64} {s1 q1 l1 n1 w1 t1 : Nat → Int32} {v2 : Int32} {k2 r2 : Nat → Int64} {s2 q2 l2 n2 w2 t2 : Nat → Int32} {v3 : Int32} {k3 r3 : Nat → Int64} {s3 q3 l3 n3 w3 t3 : Nat → Int32}  {ou : Nat → Int64} {Q : Int32 → Int32 → Int32 → Int32 → (Nat → Int64) → (Nat → Int32) → (Nat → Int32) → (Nat → Int32) → (Nat → Int64) → (Nat → Int32) → (Nat → Int32) → (Nat → Int32) → (Nat → Int32) → Int32 → (Nat → Int64) → (Nat → Int32) → (Nat → Int32) → (Nat → Int32) → (Nat → Int64) → (Nat → Int32) → (Nat → Int32) → (Nat → Int32) → Int32 → (Nat → Int64) → (Nat → Int32) → (Nat → Int32) → (Nat → Int32) → (Nat → Int64) → (Nat → Int32) → (Nat → Int32) → (Nat → Int32) → Int32 → (Nat → Int64) → (Nat → Int32) → (Nat → Int32) → (Nat → Int32) → (Nat → Int64) → (Nat → Int32) → (Nat → Int32) → (Nat → Int32) → (Nat → Int64) → Prop} {x1 x2 : Int32} (hN : 1000 < N) (hc : c ≤ 4) (hW : WF M) (hn : ST M (nI (M 0)) ka sa qa la ra na wa ta) (hk : IK c SV v0 k0 s0 q0 l0 r0 n0 w0 t0 v1 k1 s1 q1 l1 r1 n1 w1 t1 v2 k2 s2 q2 l2 r2 n2 w2 t2 v3 k3 s3 q3 l3 r3 n3 w3 t3)
    (hbad : (∀ v, v < M 0 → x1 ≠ nI v) → Q (nI 1) (nI c) st v0 k0 s0 q0 l0 r0 n0 w0 t0 qa v1 k1 s1 q1 l1 r1 n1 w1 t1 v2 k2 s2 q2 l2 r2 n2 w2 t2 v3 k3 s3 q3 l3 r3 n3 w3 t3 ou)
    (hbad2 : ∀ v, v < M 0 → x1 = nI v → (∀ x, x ≤ 1000 → x2 ≠ nI x) → Q (nI 2) (nI c) st v0 k0 s0 q0 l0 r0 n0 w0 t0 qa v1 k1 s1 q1 l1 r1 n1 w1 t1 v2 k2 s2 q2 l2 r2 n2 w2 t2 v3 k3 s3 q3 l3 r3 n3 w3 t3 ou)
    (hok : ∀ v x, v < M 0 → x1 = nI v → x ≤ 1000 → x2 = nI x → ∀ (vx0 : Int32) (kx0 rx0 : Nat → Int64) (sx0 qx0 lx0 nx0 wx0 tx0 : Nat → Int32) (vx1 : Int32) (kx1 rx1 : Nat → Int64) (sx1 qx1 lx1 nx1 wx1 tx1 : Nat → Int32) (vx2 : Int32) (kx2 rx2 : Nat → Int64) (sx2 qx2 lx2 nx2 wx2 tx2 : Nat → Int32) (vx3 : Int32) (kx3 rx3 : Nat → Int64) (sx3 qx3 lx3 nx3 wx3 tx3 : Nat → Int32), IK (cx c) (nx c SV M) vx0 kx0 sx0 qx0 lx0 rx0 nx0 wx0 tx0 vx1 kx1 sx1 qx1 lx1 rx1 nx1 wx1 tx1 vx2 kx2 sx2 qx2 lx2 rx2 nx2 wx2 tx2 vx3 kx3 sx3 qx3 lx3 rx3 nx3 wx3 tx3 → ST (setC M (10 + 8 * v + 7) x) (nI (M 0)) ka sa (upd qa v (nI x)) la ra na wa ta → Q (nI 0) (nI (cx c)) (nI 1) vx0 kx0 sx0 qx0 lx0 rx0 nx0 wx0 tx0 (upd qa v (nI x)) vx1 kx1 sx1 qx1 lx1 rx1 nx1 wx1 tx1 vx2 kx2 sx2 qx2 lx2 rx2 nx2 wx2 tx2 vx3 kx3 sx3 qx3 lx3 rx3 nx3 wx3 tx3 (vp_updL ou 0 (nI (M (10 + 8 * v + 7))).toInt64)) : p_L_setQuality N (nI c) st (nI (M 0)) v0 k0 s0 q0 l0 r0 n0 w0 t0 ka sa qa la ra na wa ta v1 k1 s1 q1 l1 r1 n1 w1 t1 v2 k2 s2 q2 l2 r2 n2 w2 t2 v3 k3 s3 q3 l3 r3 n3 w3 t3 ou x1 x2 Q := by
  unfold p_L_setQuality p_X5_setQuality
  simp (disch := omega) only [zl, nS]
  have h16 := hW.1
  refine s_hasVariant h16 (fun v hv e => ⟨fun _ => ?_, fun z => absurd z (by decide)⟩) (fun e => ⟨fun z => absurd rfl z, fun _ => ⟨fun z => absurd z (by decide), fun _ => hbad e⟩⟩)
  subst e
  rcases i32 x2 with e | ⟨x, hx, rfl⟩
  · obtain ⟨e1, e2, e3, e4⟩ := i32_n e
    exact ⟨fun _ => ⟨fun _ => hbad2 v hv rfl (fun x hx => e2 x (by omega)), fun z => absurd z (by decide)⟩, fun z => absurd (by rw [e1]; trivial) z⟩
  · simp (disch := omega) only [nS]
    refine ⟨fun z => absurd z (by omega), fun _ => ⟨fun hx2 => ?_, fun hx2 => ⟨fun _ => hbad2 v hv rfl (fun w hw z => ?_), fun z => absurd z (by decide)⟩⟩⟩
    · refine s_save hc hW hn hk (fun vx0 kx0 sx0 qx0 lx0 rx0 nx0 wx0 tx0 vx1 kx1 sx1 qx1 lx1 rx1 nx1 wx1 tx1 vx2 kx2 sx2 qx2 lx2 rx2 nx2 wx2 tx2 vx3 kx3 sx3 qx3 lx3 rx3 nx3 wx3 tx3 hx => ?_)
      refine ⟨by omega, by omega, ?_⟩
      rw [hn.2.2.2.1 v hv]
      exact hok v x hv rfl hx2 rfl _ _ _ _ _ _ _ _ _ _ _ _ _ _ _ _ _ _ _ _ _ _ _ _ _ _ _ _ _ _ _ _ _ _ _ _ hx (setQ_ST hW hn hv)
    · rw [show (nI x = nI w) = (x = w) from nS.2.2.2.2.2.2.2.2.2.1 x w hx (by omega)] at z
      omega
theorem s_L_setSize {N c : Nat} {SV : Nat → Nat → Nat} {M : Nat → Nat} {st : Int32} {ka ra : Nat → Int64} {sa qa la na wa ta : Nat → Int32} {v0 : Int32} {k0 r0 : Nat → Int64} {s0 q0 l0 n0 w0 t0 : Nat → Int32} {v1 : Int32} {k1 r1 : Nat → Int64} {s1 q1 l1 n1 w1 t1 : Nat → Int32} {v2 : Int32} {k2 r2 : Nat → Int64} {s2 q2 l2 n2 w2 t2 : Nat → Int32} {v3 : Int32} {k3 r3 : Nat → Int64} {s3 q3 l3 n3 w3 t3 : Nat → Int32}  {ou : Nat → Int64} {Q : Int32 → Int32 → Int32 → Int32 → (Nat → Int64) → (Nat → Int32) → (Nat → Int32) → (Nat → Int32) → (Nat → Int64) → (Nat → Int32) → (Nat → Int32) → (Nat → Int32) → (Nat → Int32) → Int32 → (Nat → Int64) → (Nat → Int32) → (Nat → Int32) → (Nat → Int32) → (Nat → Int64) → (Nat → Int32) → (Nat → Int32) → (Nat → Int32) → Int32 → (Nat → Int64) → (Nat → Int32) → (Nat → Int32) → (Nat → Int32) → (Nat → Int64) → (Nat → Int32) → (Nat → Int32) → (Nat → Int32) → Int32 → (Nat → Int64) → (Nat → Int32) → (Nat → Int32) → (Nat → Int32) → (Nat → Int64) → (Nat → Int32) → (Nat → Int32) → (Nat → Int32) → (Nat → Int64) → Prop} {x1 x2 : Int32} (hN : 1000 < N) (hc : c ≤ 4) (hW : WF M) (hn : ST M (nI (M 0)) ka sa qa la ra na wa ta) (hk : IK c SV v0 k0 s0 q0 l0 r0 n0 w0 t0 v1 k1 s1 q1 l1 r1 n1 w1 t1 v2 k2 s2 q2 l2 r2 n2 w2 t2 v3 k3 s3 q3 l3 r3 n3 w3 t3)
    (hbad : (∀ v, v < M 0 → x1 ≠ nI v) → Q (nI 1) (nI c) st v0 k0 s0 q0 l0 r0 n0 w0 t0 sa v1 k1 s1 q1 l1 r1 n1 w1 t1 v2 k2 s2 q2 l2 r2 n2 w2 t2 v3 k3 s3 q3 l3 r3 n3 w3 t3 ou)
    (hbad2 : ∀ v, v < M 0 → x1 = nI v → (∀ x, x ≤ 999999 → x2 ≠ nI x) → Q (nI 2) (nI c) st v0 k0 s0 q0 l0 r0 n0 w0 t0 sa v1 k1 s1 q1 l1 r1 n1 w1 t1 v2 k2 s2 q2 l2 r2 n2 w2 t2 v3 k3 s3 q3 l3 r3 n3 w3 t3 ou)
    (hok : ∀ v x, v < M 0 → x1 = nI v → x ≤ 999999 → x2 = nI x → ∀ (vx0 : Int32) (kx0 rx0 : Nat → Int64) (sx0 qx0 lx0 nx0 wx0 tx0 : Nat → Int32) (vx1 : Int32) (kx1 rx1 : Nat → Int64) (sx1 qx1 lx1 nx1 wx1 tx1 : Nat → Int32) (vx2 : Int32) (kx2 rx2 : Nat → Int64) (sx2 qx2 lx2 nx2 wx2 tx2 : Nat → Int32) (vx3 : Int32) (kx3 rx3 : Nat → Int64) (sx3 qx3 lx3 nx3 wx3 tx3 : Nat → Int32), IK (cx c) (nx c SV M) vx0 kx0 sx0 qx0 lx0 rx0 nx0 wx0 tx0 vx1 kx1 sx1 qx1 lx1 rx1 nx1 wx1 tx1 vx2 kx2 sx2 qx2 lx2 rx2 nx2 wx2 tx2 vx3 kx3 sx3 qx3 lx3 rx3 nx3 wx3 tx3 → ST (setC M (10 + 8 * v + 6) x) (nI (M 0)) ka (upd sa v (nI x)) qa la ra na wa ta → Q (nI 0) (nI (cx c)) (nI 1) vx0 kx0 sx0 qx0 lx0 rx0 nx0 wx0 tx0 (upd sa v (nI x)) vx1 kx1 sx1 qx1 lx1 rx1 nx1 wx1 tx1 vx2 kx2 sx2 qx2 lx2 rx2 nx2 wx2 tx2 vx3 kx3 sx3 qx3 lx3 rx3 nx3 wx3 tx3 (vp_updL ou 0 (nI (M (10 + 8 * v + 6))).toInt64)) : p_L_setSize N (nI c) st (nI (M 0)) v0 k0 s0 q0 l0 r0 n0 w0 t0 ka sa qa la ra na wa ta v1 k1 s1 q1 l1 r1 n1 w1 t1 v2 k2 s2 q2 l2 r2 n2 w2 t2 v3 k3 s3 q3 l3 r3 n3 w3 t3 ou x1 x2 Q := by
  unfold p_L_setSize p_X5_setSize
  simp (disch := omega) only [zl, nS]
  have h16 := hW.1
  refine s_hasVariant h16 (fun v hv e => ⟨fun _ => ?_, fun z => absurd z (by decide)⟩) (fun e => ⟨fun z => absurd rfl z, fun _ => ⟨fun z => absurd z (by decide), fun _ => hbad e⟩⟩)
  subst e
  rcases i32 x2 with e | ⟨x, hx, rfl⟩
  · obtain ⟨e1, e2, e3, e4⟩ := i32_n e
    exact ⟨fun _ => ⟨fun _ => hbad2 v hv rfl (fun x hx => e2 x (by omega)), fun z => absurd z (by decide)⟩, fun z => absurd (by rw [e1]; trivial) z⟩
  · simp (disch := omega) only [nS]
    refine ⟨fun z => absurd z (by omega), fun _ => ⟨fun hx2 => ?_, fun hx2 => ⟨fun _ => hbad2 v hv rfl (fun w hw z => ?_), fun z => absurd z (by decide)⟩⟩⟩
    · refine s_save hc hW hn hk (fun vx0 kx0 sx0 qx0 lx0 rx0 nx0 wx0 tx0 vx1 kx1 sx1 qx1 lx1 rx1 nx1 wx1 tx1 vx2 kx2 sx2 qx2 lx2 rx2 nx2 wx2 tx2 vx3 kx3 sx3 qx3 lx3 rx3 nx3 wx3 tx3 hx => ?_)
      refine ⟨by omega, by omega, ?_⟩
      rw [hn.2.2.1 v hv]
      exact hok v x hv rfl hx2 rfl _ _ _ _ _ _ _ _ _ _ _ _ _ _ _ _ _ _ _ _ _ _ _ _ _ _ _ _ _ _ _ _ _ _ _ _ hx (setS_ST hW hn hv)
    · rw [show (nI x = nI w) = (x = w) from nS.2.2.2.2.2.2.2.2.2.1 x w hx (by omega)] at z
      omega
theorem s_L_setWeight {N c : Nat} {SV : Nat → Nat → Nat} {M : Nat → Nat} {st : Int32} {ka ra : Nat → Int64} {sa qa la na wa ta : Nat → Int32} {v0 : Int32} {k0 r0 : Nat → Int64} {s0 q0 l0 n0 w0 t0 : Nat → Int32} {v1 : Int32} {k1 r1 : Nat → Int64} {s1 q1 l1 n1 w1 t1 : Nat → Int32} {v2 : Int32} {k2 r2 : Nat → Int64} {s2 q2 l2 n2 w2 t2 : Nat → Int32} {v3 : Int32} {k3 r3 : Nat → Int64} {s3 q3 l3 n3 w3 t3 : Nat → Int32}  {ou : Nat → Int64} {Q : Int32 → Int32 → Int32 → Int32 → (Nat → Int64) → (Nat → Int32) → (Nat → Int32) → (Nat → Int32) → (Nat → Int64) → (Nat → Int32) → (Nat → Int32) → (Nat → Int32) → (Nat → Int32) → Int32 → (Nat → Int64) → (Nat → Int32) → (Nat → Int32) → (Nat → Int32) → (Nat → Int64) → (Nat → Int32) → (Nat → Int32) → (Nat → Int32) → Int32 → (Nat → Int64) → (Nat → Int32) → (Nat → Int32) → (Nat → Int32) → (Nat → Int64) → (Nat → Int32) → (Nat → Int32) → (Nat → Int32) → Int32 → (Nat → Int64) → (Nat → Int32) → (Nat → Int32) → (Nat → Int32) → (Nat → Int64) → (Nat → Int32) → (Nat → Int32) → (Nat → Int32) → (Nat → Int64) → Prop} {x1 x2 x3 x4 : Int32} (hN : 1000 < N) (hc : c ≤ 4) (hW : WF M) (hn : ST M (nI (M 0)) ka sa qa la ra na wa ta) (hk : IK c SV v0 k0 s0 q0 l0 r0 n0 w0 t0 v1 k1 s1 q1 l1 r1 n1 w1 t1 v2 k2 s2 q2 l2 r2 n2 w2 t2 v3 k3 s3 q3 l3 r3 n3 w3 t3)
    (hbad : (∀ l e, ¬ isE M x1 x2 x3 l e) → Q (nI 1) (nI c) st v0 k0 s0 q0 l0 r0 n0 w0 t0 wa v1 k1 s1 q1 l1 r1 n1 w1 t1 v2 k2 s2 q2 l2 r2 n2 w2 t2 v3 k3 s3 q3 l3 r3 n3 w3 t3 ou)
    (hbad2 : ∀ l e, isE M x1 x2 x3 l e → (∀ x, x ≤ 1000 → x4 ≠ nI x) → Q (nI 2) (nI c) st v0 k0 s0 q0 l0 r0 n0 w0 t0 wa v1 k1 s1 q1 l1 r1 n1 w1 t1 v2 k2 s2 q2 l2 r2 n2 w2 t2 v3 k3 s3 q3 l3 r3 n3 w3 t3 ou)
    (hok : ∀ l e x, isE M x1 x2 x3 l e → x ≤ 1000 → x4 = nI x → ∀ (vx0 : Int32) (kx0 rx0 : Nat → Int64) (sx0 qx0 lx0 nx0 wx0 tx0 : Nat → Int32) (vx1 : Int32) (kx1 rx1 : Nat → Int64) (sx1 qx1 lx1 nx1 wx1 tx1 : Nat → Int32) (vx2 : Int32) (kx2 rx2 : Nat → Int64) (sx2 qx2 lx2 nx2 wx2 tx2 : Nat → Int32) (vx3 : Int32) (kx3 rx3 : Nat → Int64) (sx3 qx3 lx3 nx3 wx3 tx3 : Nat → Int32), IK (cx c) (nx c SV M) vx0 kx0 sx0 qx0 lx0 rx0 nx0 wx0 tx0 vx1 kx1 sx1 qx1 lx1 rx1 nx1 wx1 tx1 vx2 kx2 sx2 qx2 lx2 rx2 nx2 wx2 tx2 vx3 kx3 sx3 qx3 lx3 rx3 nx3 wx3 tx3 → ST (setC M (ec l e + 3) x) (nI (M 0)) ka sa qa la ra na (upd wa (l * 10 + e) (nI x)) ta → Q (nI 0) (nI (cx c)) (nI 1) vx0 kx0 sx0 qx0 lx0 rx0 nx0 wx0 tx0 (upd wa (l * 10 + e) (nI x)) vx1 kx1 sx1 qx1 lx1 rx1 nx1 wx1 tx1 vx2 kx2 sx2 qx2 lx2 rx2 nx2 wx2 tx2 vx3 kx3 sx3 qx3 lx3 rx3 nx3 wx3 tx3 (vp_updL ou 0 (nI (M (ec l e + 3))).toInt64)) : p_L_setWeight N (nI c) st (nI (M 0)) la v0 k0 s0 q0 l0 r0 n0 w0 t0 ka sa qa ra na wa ta v1 k1 s1 q1 l1 r1 n1 w1 t1 v2 k2 s2 q2 l2 r2 n2 w2 t2 v3 k3 s3 q3 l3 r3 n3 w3 t3 ou x1 x2 x3 x4 Q := by
  unfold p_L_setWeight p_X5_setWeight
  simp (disch := omega) only [zl, nS]
  refine s_hasEntry hn.2.2.2.2.1 hW (fun l e he => ⟨fun _ => ?_, fun z => absurd z (by decide)⟩) (fun e => ⟨fun z => absurd rfl z, fun _ => ⟨fun z => absurd z (by decide), fun _ => hbad e⟩⟩)
  rcases i32 x4 with g | ⟨x, hx, rfl⟩
  · obtain ⟨e1, e2, e3, e4⟩ := i32_n g
    exact ⟨fun _ => ⟨fun _ => hbad2 l e he (fun x hx => e2 x (by omega)), fun z => absurd z (by decide)⟩, fun z => absurd (by rw [e1]; trivial) z⟩
  · simp (disch := omega) only [nS]
    refine ⟨fun z => absurd z (by omega), fun _ => ⟨fun hx2 => ?_, fun hx2 => ⟨fun _ => hbad2 l e he (fun w hw z => ?_), fun z => absurd z (by decide)⟩⟩⟩
    · refine s_save hc hW hn hk (fun vx0 kx0 sx0 qx0 lx0 rx0 nx0 wx0 tx0 vx1 kx1 sx1 qx1 lx1 rx1 nx1 wx1 tx1 vx2 kx2 sx2 qx2 lx2 rx2 nx2 wx2 tx2 vx3 kx3 sx3 qx3 lx3 rx3 nx3 wx3 tx3 hx => ?_)
      have he' := he
      obtain ⟨hl, he, s, k, hs, hk2, hlk, r1, r2, r3⟩ := he
      have h10 := hW.2.1 l hl
      rw [r1, r2, r3]
      refine s_slotOf (s_rowOf ?_)
      rw [show s * 3 + k = l by omega]
      simp (disch := omega) only [nS]
      refine ⟨by omega, by omega, ?_⟩
      rw [hn.2.2.2.2.2.2.2.1 l hl e he]
      exact hok l e x he' hx2 rfl _ _ _ _ _ _ _ _ _ _ _ _ _ _ _ _ _ _ _ _ _ _ _ _ _ _ _ _ _ _ _ _ _ _ _ _ hx (setW_ST hW hn hl he)
    · rw [show (nI x = nI w) = (x = w) from nS.2.2.2.2.2.2.2.2.2.1 x w hx (by omega)] at z
      omega
theorem s_L_removeEntry {N c : Nat} {SV : Nat → Nat → Nat} {M : Nat → Nat} {st : Int32} {ka ra : Nat → Int64} {sa qa la na wa ta : Nat → Int32} {v0 : Int32} {k0 r0 : Nat → Int64} {s0 q0 l0 n0 w0 t0 : Nat → Int32} {v1 : Int32} {k1 r1 : Nat → Int64} {s1 q1 l1 n1 w1 t1 : Nat → Int32} {v2 : Int32} {k2 r2 : Nat → Int64} {s2 q2 l2 n2 w2 t2 : Nat → Int32} {v3 : Int32} {k3 r3 : Nat → Int64} {s3 q3 l3 n3 w3 t3 : Nat → Int32}  {ou : Nat → Int64} {Q : Int32 → Int32 → Int32 → (Nat → Int32) → Int32 → (Nat → Int64) → (Nat → Int32) → (Nat → Int32) → (Nat → Int32) → (Nat → Int64) → (Nat → Int32) → (Nat → Int32) → (Nat → Int32) → (Nat → Int64) → (Nat → Int32) → (Nat → Int32) → Int32 → (Nat → Int64) → (Nat → Int32) → (Nat → Int32) → (Nat → Int32) → (Nat → Int64) → (Nat → Int32) → (Nat → Int32) → (Nat → Int32) → Int32 → (Nat → Int64) → (Nat → Int32) → (Nat → Int32) → (Nat → Int32) → (Nat → Int64) → (Nat → Int32) → (Nat → Int32) → (Nat → Int32) → Int32 → (Nat → Int64) → (Nat → Int32) → (Nat → Int32) → (Nat → Int32) → (Nat → Int64) → (Nat → Int32) → (Nat → Int32) → (Nat → Int32) → (Nat → Int64) → Prop} {x1 x2 x3 : Int32} (hN : 1000 < N) (hc : c ≤ 4) (hW : WF M) (hn : ST M (nI (M 0)) ka sa qa la ra na wa ta) (hk : IK c SV v0 k0 s0 q0 l0 r0 n0 w0 t0 v1 k1 s1 q1 l1 r1 n1 w1 t1 v2 k2 s2 q2 l2 r2 n2 w2 t2 v3 k3 s3 q3 l3 r3 n3 w3 t3)
    (hbad : (∀ l e, ¬ isE M x1 x2 x3 l e) → Q (nI 1) (nI c) st la v0 k0 s0 q0 l0 r0 n0 w0 t0 ra na wa v1 k1 s1 q1 l1 r1 n1 w1 t1 v2 k2 s2 q2 l2 r2 n2 w2 t2 v3 k3 s3 q3 l3 r3 n3 w3 t3 ou)
    (hok : ∀ l e, isE M x1 x2 x3 l e → ∀ (vx0 : Int32) (kx0 rx0 : Nat → Int64) (sx0 qx0 lx0 nx0 wx0 tx0 : Nat → Int32) (vx1 : Int32) (kx1 rx1 : Nat → Int64) (sx1 qx1 lx1 nx1 wx1 tx1 : Nat → Int32) (vx2 : Int32) (kx2 rx2 : Nat → Int64) (sx2 qx2 lx2 nx2 wx2 tx2 : Nat → Int32) (vx3 : Int32) (kx3 rx3 : Nat → Int64) (sx3 qx3 lx3 nx3 wx3 tx3 : Nat → Int32), IK (cx c) (nx c SV M) vx0 kx0 sx0 qx0 lx0 rx0 nx0 wx0 tx0 vx1 kx1 sx1 qx1 lx1 rx1 nx1 wx1 tx1 vx2 kx2 sx2 qx2 lx2 rx2 nx2 wx2 tx2 vx3 kx3 sx3 qx3 lx3 rx3 nx3 wx3 tx3 → ∀ (lg : Nat → Int32) (rg : Nat → Int64) (ng wg : Nat → Int32), ST (remE M l e) (nI (M 0)) ka sa qa lg rg ng wg ta → Q (nI 0) (nI (cx c)) (nI 1) lg vx0 kx0 sx0 qx0 lx0 rx0 nx0 wx0 tx0 rg ng wg vx1 kx1 sx1 qx1 lx1 rx1 nx1 wx1 tx1 vx2 kx2 sx2 qx2 lx2 rx2 nx2 wx2 tx2 vx3 kx3 sx3 qx3 lx3 rx3 nx3 wx3 tx3 (vp_updL ou 0 (nI (M (4 + l) - 1)).toInt64)) : p_L_removeEntry N (nI c) st (nI (M 0)) la v0 k0 s0 q0 l0 r0 n0 w0 t0 ka sa qa ra na wa ta v1 k1 s1 q1 l1 r1 n1 w1 t1 v2 k2 s2 q2 l2 r2 n2 w2 t2 v3 k3 s3 q3 l3 r3 n3 w3 t3 ou x1 x2 x3 Q := by
  unfold p_L_removeEntry p_X5_removeEntry
  simp (disch := omega) only [zl, nS]
  refine s_hasEntry hn.2.2.2.2.1 hW (fun l e he => ⟨fun _ => ?_, fun z => absurd z (by decide)⟩) (fun e => ⟨fun z => absurd rfl z, fun _ => fun _ => hbad e⟩)
  refine s_save hc hW hn hk (fun vx0 kx0 sx0 qx0 lx0 rx0 nx0 wx0 tx0 vx1 kx1 sx1 qx1 lx1 rx1 nx1 wx1 tx1 vx2 kx2 sx2 qx2 lx2 rx2 nx2 wx2 tx2 vx3 kx3 sx3 qx3 lx3 rx3 nx3 wx3 tx3 hx => ?_)
  have he' := he
  obtain ⟨hl, he, s, k, hs, hk2, hlk, r1, r2, r3⟩ := he
  rw [r1, r2, r3]
  refine s_slotOf ?_
  rw [show s * 3 + k = l by omega]
  refine s_dropEntry hN hl (hW.2.1 l hl) (hn.2.2.2.2.1 l hl) he (fun rg ng wg h1 h2 h3 => ?_)
  exact hok l e he' _ _ _ _ _ _ _ _ _ _ _ _ _ _ _ _ _ _ _ _ _ _ _ _ _ _ _ _ _ _ _ _ _ _ _ _ hx _ rg ng wg (remE_ST hW hn hl he h1 h2 h3)
theorem s_L_takeList {N c : Nat} {SV : Nat → Nat → Nat} {M : Nat → Nat} {st : Int32} {ka ra : Nat → Int64} {sa qa la na wa ta : Nat → Int32} {v0 : Int32} {k0 r0 : Nat → Int64} {s0 q0 l0 n0 w0 t0 : Nat → Int32} {v1 : Int32} {k1 r1 : Nat → Int64} {s1 q1 l1 n1 w1 t1 : Nat → Int32} {v2 : Int32} {k2 r2 : Nat → Int64} {s2 q2 l2 n2 w2 t2 : Nat → Int32} {v3 : Int32} {k3 r3 : Nat → Int64} {s3 q3 l3 n3 w3 t3 : Nat → Int32} {e0 : Int32} {e1 : Int32} {e2 : Int64} {e3 : Int32} {e4 : Int32} {e5 : Int32} {er : Nat → Int64} {en : Nat → Int32} {ew : Nat → Int32} {ou : Nat → Int64} {Q : Int32 → Int32 → Int32 → Int32 → Int32 → Int64 → Int32 → Int32 → (Nat → Int64) → (Nat → Int32) → (Nat → Int32) → Int32 → (Nat → Int64) → (Nat → Int32) → (Nat → Int32) → (Nat → Int32) → (Nat → Int64) → (Nat → Int32) → (Nat → Int32) → (Nat → Int32) → (Nat → Int32) → (Nat → Int64) → (Nat → Int32) → (Nat → Int32) → Int32 → (Nat → Int64) → (Nat → Int32) → (Nat → Int32) → (Nat → Int32) → (Nat → Int64) → (Nat → Int32) → (Nat → Int32) → (Nat → Int32) → Int32 → (Nat → Int64) → (Nat → Int32) → (Nat → Int32) → (Nat → Int32) → (Nat → Int64) → (Nat → Int32) → (Nat → Int32) → (Nat → Int32) → Int32 → (Nat → Int64) → (Nat → Int32) → (Nat → Int32) → (Nat → Int32) → (Nat → Int64) → (Nat → Int32) → (Nat → Int32) → (Nat → Int32) → (Nat → Int64) → Prop} {tn : Nat} {b : Nat → Nat} (hb : ∀ j, b j < 128) (htn : tn ≤ 120) {x1 x2 : Int32} (hN : 1000 < N) (hc : c ≤ 4) (hW : WF M) (hn : ST M (nI (M 0)) ka sa qa la ra na wa ta) (hk : IK c SV v0 k0 s0 q0 l0 r0 n0 w0 t0 v1 k1 s1 q1 l1 r1 n1 w1 t1 v2 k2 s2 q2 l2 r2 n2 w2 t2 v3 k3 s3 q3 l3 r3 n3 w3 t3)
    (hbad : ¬ isL x1 x2 → Q (nI 1) (nI c) st e0 e1 e2 e3 e4 er en ew v0 k0 s0 q0 l0 r0 n0 w0 t0 la ra na wa v1 k1 s1 q1 l1 r1 n1 w1 t1 v2 k2 s2 q2 l2 r2 n2 w2 t2 v3 k3 s3 q3 l3 r3 n3 w3 t3 ou)
    (hfl : ∀ s l, s < 2 → l < 3 → x1 = nI s → x2 = nI l → (lsW b tn l).1 = 0 → ∀ (e0' : Int32) (e1' : Int32) (e2' : Int64) (e3' : Int32) (e4' : Int32) (er' : Nat → Int64) (en' : Nat → Int32) (ew' : Nat → Int32), Q (nI 0) (nI c) st e0' e1' e2' e3' e4' er' en' ew' v0 k0 s0 q0 l0 r0 n0 w0 t0 la ra na wa v1 k1 s1 q1 l1 r1 n1 w1 t1 v2 k2 s2 q2 l2 r2 n2 w2 t2 v3 k3 s3 q3 l3 r3 n3 w3 t3 (vp_updL ou 0 (-nI 10 - nI (lsW b tn l).2.1).toInt64))
    (hok : ∀ s l, s < 2 → l < 3 → x1 = nI s → x2 = nI l → (lsW b tn l).1 = 1 → ∀ (e0' : Int32) (e1' : Int32) (e2' : Int64) (e3' : Int32) (e4' : Int32) (er' : Nat → Int64) (en' : Nat → Int32) (ew' : Nat → Int32) (vx0 : Int32) (kx0 rx0 : Nat → Int64) (sx0 qx0 lx0 nx0 wx0 tx0 : Nat → Int32) (vx1 : Int32) (kx1 rx1 : Nat → Int64) (sx1 qx1 lx1 nx1 wx1 tx1 : Nat → Int32) (vx2 : Int32) (kx2 rx2 : Nat → Int64) (sx2 qx2 lx2 nx2 wx2 tx2 : Nat → Int32) (vx3 : Int32) (kx3 rx3 : Nat → Int64) (sx3 qx3 lx3 nx3 wx3 tx3 : Nat → Int32), IK (cx c) (nx c SV M) vx0 kx0 sx0 qx0 lx0 rx0 nx0 wx0 tx0 vx1 kx1 sx1 qx1 lx1 rx1 nx1 wx1 tx1 vx2 kx2 sx2 qx2 lx2 rx2 nx2 wx2 tx2 vx3 kx3 sx3 qx3 lx3 rx3 nx3 wx3 tx3 → ∀ (lg : Nat → Int32) (rg : Nat → Int64) (ng wg : Nat → Int32), ST (setL M (s * 3 + l) (lsW b tn l).2.2.1 (lsW b tn l).2.2.2) (nI (M 0)) ka sa qa lg rg ng wg ta → Q (nI 0) (nI (cx c)) (nI 1) e0' e1' e2' e3' e4' er' en' ew' vx0 kx0 sx0 qx0 lx0 rx0 nx0 wx0 tx0 lg rg ng wg vx1 kx1 sx1 qx1 lx1 rx1 nx1 wx1 tx1 vx2 kx2 sx2 qx2 lx2 rx2 nx2 wx2 tx2 vx3 kx3 sx3 qx3 lx3 rx3 nx3 wx3 tx3 (vp_updL ou 0 (nI (lsW b tn l).2.2.1).toInt64)) : p_L_takeList N (nI c) st e0 e1 e2 e3 e4 e5 (nI tn) (tB b) er en ew v0 k0 s0 q0 l0 r0 n0 w0 t0 (nI (M 0)) ka sa qa la ra na wa ta v1 k1 s1 q1 l1 r1 n1 w1 t1 v2 k2 s2 q2 l2 r2 n2 w2 t2 v3 k3 s3 q3 l3 r3 n3 w3 t3 ou x1 x2 Q := by
  unfold p_L_takeList p_X5_takeList
  simp (disch := omega) only [zl, nS, nSm]
  refine s_isList5 (fun h => ⟨fun _ => ?_, fun z => absurd z (by decide)⟩) (fun h => ⟨fun z => absurd rfl z, fun _ => fun _ => hbad h⟩)
  obtain ⟨s, l, hs, hl, rfl, rfl⟩ := h
  obtain ⟨o1, o2, o3⟩ := lsW_out (b := b) (tn := tn) hl
  refine s_readList1 hN hb htn hl (fun p u k m e rs ns ws hr => ?_)
  unfold fault
  rcases o1 with o1 | o1
  · rw [if_neg (by omega)]
    simp (disch := omega) only [nSm]
    exact ⟨fun z => z.elim, fun _ => hfl s l hs hl rfl rfl o1 _ _ _ _ _ _ _ _⟩
  · rw [if_pos o1]
    simp (disch := omega) only [nSm]
    obtain ⟨o4, o5⟩ := o3 o1
    obtain ⟨r1, r2⟩ := hr o1
    subst r1
    refine ⟨fun _ => ?_, fun z => absurd trivial z⟩
    refine s_save hc hW hn hk (fun vx0 kx0 sx0 qx0 lx0 rx0 nx0 wx0 tx0 vx1 kx1 sx1 qx1 lx1 rx1 nx1 wx1 tx1 vx2 kx2 sx2 qx2 lx2 rx2 nx2 wx2 tx2 vx3 kx3 sx3 qx3 lx3 rx3 nx3 wx3 tx3 hx => ?_)
    refine s_slotOf (s_putList hN (by omega) o4 (fun rg ng wg h1 h2 h3 => ?_))
    have e3 : (s * 3 + l) % 3 = l := by omega
    exact hok s l hs hl rfl rfl o1 _ _ _ _ _ _ _ _ _ _ _ _ _ _ _ _ _ _ _ _ _ _ _ _ _ _ _ _ _ _ _ _ _ _ _ _ _ _ _ _ _ _ _ _ hx _ rg ng wg (setL_ST hW hn (by omega) o4 (by rw [e3]; exact r2) h1 h2 h3)
theorem s_L_setTies {N c : Nat} {SV : Nat → Nat → Nat} {M : Nat → Nat} {st : Int32} {ka ra : Nat → Int64} {sa qa la na wa ta : Nat → Int32} {v0 : Int32} {k0 r0 : Nat → Int64} {s0 q0 l0 n0 w0 t0 : Nat → Int32} {v1 : Int32} {k1 r1 : Nat → Int64} {s1 q1 l1 n1 w1 t1 : Nat → Int32} {v2 : Int32} {k2 r2 : Nat → Int64} {s2 q2 l2 n2 w2 t2 : Nat → Int32} {v3 : Int32} {k3 r3 : Nat → Int64} {s3 q3 l3 n3 w3 t3 : Nat → Int32}  {ou : Nat → Int64} {Q : Int32 → Int32 → Int32 → Int32 → (Nat → Int64) → (Nat → Int32) → (Nat → Int32) → (Nat → Int32) → (Nat → Int64) → (Nat → Int32) → (Nat → Int32) → (Nat → Int32) → (Nat → Int32) → Int32 → (Nat → Int64) → (Nat → Int32) → (Nat → Int32) → (Nat → Int32) → (Nat → Int64) → (Nat → Int32) → (Nat → Int32) → (Nat → Int32) → Int32 → (Nat → Int64) → (Nat → Int32) → (Nat → Int32) → (Nat → Int32) → (Nat → Int64) → (Nat → Int32) → (Nat → Int32) → (Nat → Int32) → Int32 → (Nat → Int64) → (Nat → Int32) → (Nat → Int32) → (Nat → Int32) → (Nat → Int64) → (Nat → Int32) → (Nat → Int32) → (Nat → Int32) → (Nat → Int64) → Prop} {x1 x2 x3 : Int32} (hN : 1000 < N) (hc : c ≤ 4) (hW : WF M) (hn : ST M (nI (M 0)) ka sa qa la ra na wa ta) (hk : IK c SV v0 k0 s0 q0 l0 r0 n0 w0 t0 v1 k1 s1 q1 l1 r1 n1 w1 t1 v2 k2 s2 q2 l2 r2 n2 w2 t2 v3 k3 s3 q3 l3 r3 n3 w3 t3)
    (hbad : (∀ a b d, a ≤ 5 → b ≤ 5 → d ≤ 5 → ¬ (x1 = nI a ∧ x2 = nI b ∧ x3 = nI d)) → Q (nI 1) (nI c) st v0 k0 s0 q0 l0 r0 n0 w0 t0 ta v1 k1 s1 q1 l1 r1 n1 w1 t1 v2 k2 s2 q2 l2 r2 n2 w2 t2 v3 k3 s3 q3 l3 r3 n3 w3 t3 ou)
    (hok : ∀ a b d, a ≤ 5 → b ≤ 5 → d ≤ 5 → x1 = nI a → x2 = nI b → x3 = nI d → ∀ (vx0 : Int32) (kx0 rx0 : Nat → Int64) (sx0 qx0 lx0 nx0 wx0 tx0 : Nat → Int32) (vx1 : Int32) (kx1 rx1 : Nat → Int64) (sx1 qx1 lx1 nx1 wx1 tx1 : Nat → Int32) (vx2 : Int32) (kx2 rx2 : Nat → Int64) (sx2 qx2 lx2 nx2 wx2 tx2 : Nat → Int32) (vx3 : Int32) (kx3 rx3 : Nat → Int64) (sx3 qx3 lx3 nx3 wx3 tx3 : Nat → Int32), IK (cx c) (nx c SV M) vx0 kx0 sx0 qx0 lx0 rx0 nx0 wx0 tx0 vx1 kx1 sx1 qx1 lx1 rx1 nx1 wx1 tx1 vx2 kx2 sx2 qx2 lx2 rx2 nx2 wx2 tx2 vx3 kx3 sx3 qx3 lx3 rx3 nx3 wx3 tx3 → ST (setT M a b d) (nI (M 0)) ka sa qa la ra na wa (upd (upd (upd ta 0 (nI a)) 1 (nI b)) 2 (nI d)) → Q (nI 0) (nI (cx c)) (nI 1) vx0 kx0 sx0 qx0 lx0 rx0 nx0 wx0 tx0 (upd (upd (upd ta 0 (nI a)) 1 (nI b)) 2 (nI d)) vx1 kx1 sx1 qx1 lx1 rx1 nx1 wx1 tx1 vx2 kx2 sx2 qx2 lx2 rx2 nx2 wx2 tx2 vx3 kx3 sx3 qx3 lx3 rx3 nx3 wx3 tx3 (vp_updL ou 0 (nI (100 * M 1 + 10 * M 2 + M 3)).toInt64)) : p_L_setTies N (nI c) st v0 k0 s0 q0 l0 r0 n0 w0 t0 (nI (M 0)) ka sa qa la ra na wa ta v1 k1 s1 q1 l1 r1 n1 w1 t1 v2 k2 s2 q2 l2 r2 n2 w2 t2 v3 k3 s3 q3 l3 r3 n3 w3 t3 ou x1 x2 x3 Q := by
  unfold p_L_setTies p_X5_setTies
  simp (disch := omega) only [zl, nS]
  have i0 := hn.2.2.2.2.2.2.2.2 0 (by decide)
  have i1 := hn.2.2.2.2.2.2.2.2 1 (by decide)
  have i2 := hn.2.2.2.2.2.2.2.2 2 (by decide)
  refine s_isRule (fun a ha e => ⟨fun z => absurd z (by decide), fun _ => ?_⟩) (fun e => ⟨fun _ => fun _ => hbad (fun a b d ha hb hd h => e a ha h.1), fun z => absurd rfl z⟩)
  refine s_isRule (fun b hb2 e2 => ⟨fun z => absurd z (by decide), fun _ => ?_⟩) (fun e => ⟨fun _ => fun _ => hbad (fun a b d ha hb hd h => e b hb h.2.1), fun z => absurd rfl z⟩)
  refine s_isRule (fun d hd e3 => ⟨fun _ => ?_, fun z => absurd z (by decide)⟩) (fun e => ⟨fun z => absurd rfl z, fun _ => fun _ => hbad (fun a b d ha hb hd h => e d hd h.2.2)⟩)
  subst e
  subst e2
  subst e3
  refine s_save hc hW hn hk (fun vx0 kx0 sx0 qx0 lx0 rx0 nx0 wx0 tx0 vx1 kx1 sx1 qx1 lx1 rx1 nx1 wx1 tx1 vx2 kx2 sx2 qx2 lx2 rx2 nx2 wx2 tx2 vx3 kx3 sx3 qx3 lx3 rx3 nx3 wx3 tx3 hx => ?_)
  rw [i0, i1, i2]
  simp only [nS]
  exact hok a b d ha hb2 hd rfl rfl rfl _ _ _ _ _ _ _ _ _ _ _ _ _ _ _ _ _ _ _ _ _ _ _ _ _ _ _ _ _ _ _ _ _ _ _ _ hx (setT_ST hn)

/-! the calls of the class as the law makes them: from whole's rows -/
theorem s_L_removeVariant {N c : Nat} {SV : Nat → Nat → Nat} {M : Nat → Nat} {st : Int32} {ka ra : Nat → Int64} {sa qa la na wa ta : Nat → Int32} {v0 : Int32} {k0 r0 : Nat → Int64} {s0 q0 l0 n0 w0 t0 : Nat → Int32} {v1 : Int32} {k1 r1 : Nat → Int64} {s1 q1 l1 n1 w1 t1 : Nat → Int32} {v2 : Int32} {k2 r2 : Nat → Int64} {s2 q2 l2 n2 w2 t2 : Nat → Int32} {v3 : Int32} {k3 r3 : Nat → Int64} {s3 q3 l3 n3 w3 t3 : Nat → Int32}  {Q : Int32 → Int32 → Int32 → Int32 → Int32 → (Nat → Int64) → (Nat → Int32) → (Nat → Int32) → (Nat → Int32) → (Nat → Int64) → (Nat → Int32) → (Nat → Int32) → (Nat → Int32) → (Nat → Int64) → (Nat → Int32) → (Nat → Int32) → Int32 → (Nat → Int64) → (Nat → Int32) → (Nat → Int32) → (Nat → Int32) → (Nat → Int64) → (Nat → Int32) → (Nat → Int32) → (Nat → Int32) → Int32 → (Nat → Int64) → (Nat → Int32) → (Nat → Int32) → (Nat → Int32) → (Nat → Int64) → (Nat → Int32) → (Nat → Int32) → (Nat → Int32) → Int32 → (Nat → Int64) → (Nat → Int32) → (Nat → Int32) → (Nat → Int32) → (Nat → Int64) → (Nat → Int32) → (Nat → Int32) → (Nat → Int32) → Prop} {x1 : Int32} (hN : 1000 < N) (hc : c ≤ 4) (hW : WF M) (hn : ST M (nI (M 0)) ka sa qa la ra na wa ta) (hk : IK c SV v0 k0 s0 q0 l0 r0 n0 w0 t0 v1 k1 s1 q1 l1 r1 n1 w1 t1 v2 k2 s2 q2 l2 r2 n2 w2 t2 v3 k3 s3 q3 l3 r3 n3 w3 t3)
    (hbad : (∀ v, v < M 0 → x1 ≠ nI v) → Q (-90300) (nI c) st (nI (M 0)) v0 k0 s0 q0 l0 r0 n0 w0 t0 ka sa qa v1 k1 s1 q1 l1 r1 n1 w1 t1 v2 k2 s2 q2 l2 r2 n2 w2 t2 v3 k3 s3 q3 l3 r3 n3 w3 t3)
    (hok : ∀ v, v < M 0 → x1 = nI v → ∀ (vx0 : Int32) (kx0 rx0 : Nat → Int64) (sx0 qx0 lx0 nx0 wx0 tx0 : Nat → Int32) (vx1 : Int32) (kx1 rx1 : Nat → Int64) (sx1 qx1 lx1 nx1 wx1 tx1 : Nat → Int32) (vx2 : Int32) (kx2 rx2 : Nat → Int64) (sx2 qx2 lx2 nx2 wx2 tx2 : Nat → Int32) (vx3 : Int32) (kx3 rx3 : Nat → Int64) (sx3 qx3 lx3 nx3 wx3 tx3 : Nat → Int32), IK (cx c) (nx c SV M) vx0 kx0 sx0 qx0 lx0 rx0 nx0 wx0 tx0 vx1 kx1 sx1 qx1 lx1 rx1 nx1 wx1 tx1 vx2 kx2 sx2 qx2 lx2 rx2 nx2 wx2 tx2 vx3 kx3 sx3 qx3 lx3 rx3 nx3 wx3 tx3 → ∀ (ky : Nat → Int64) (sz ql : Nat → Int32), ST (remV M v) (nI (M 0 - 1)) ky sz ql la ra na wa ta → Q (nI (M 0 - 1)) (nI (cx c)) (nI 1) (nI (M 0 - 1)) vx0 kx0 sx0 qx0 lx0 rx0 nx0 wx0 tx0 ky sz ql vx1 kx1 sx1 qx1 lx1 rx1 nx1 wx1 tx1 vx2 kx2 sx2 qx2 lx2 rx2 nx2 wx2 tx2 vx3 kx3 sx3 qx3 lx3 rx3 nx3 wx3 tx3) : p_L_removeVariant N (nI c) st (nI (M 0)) v0 k0 s0 q0 l0 r0 n0 w0 t0 ka sa qa la ra na wa ta v1 k1 s1 q1 l1 r1 n1 w1 t1 v2 k2 s2 q2 l2 r2 n2 w2 t2 v3 k3 s3 q3 l3 r3 n3 w3 t3 x1 Q := by
  unfold p_L_removeVariant p_X5_removeVariant
  simp (disch := omega) only [zl, nS]
  have h16 := hW.1
  refine s_hasVariant h16 (fun v hv e => ⟨fun _ => ?_, fun z => absurd z (by decide)⟩) (fun e => ⟨fun z => absurd rfl z, fun _ => fun _ => hbad e⟩)
  subst e
  refine s_save hc hW hn hk (fun vx0 kx0 sx0 qx0 lx0 rx0 nx0 wx0 tx0 vx1 kx1 sx1 qx1 lx1 rx1 nx1 wx1 tx1 vx2 kx2 sx2 qx2 lx2 rx2 nx2 wx2 tx2 vx3 kx3 sx3 qx3 lx3 rx3 nx3 wx3 tx3 hx => ?_)
  refine s_dropVariant hN h16 hv (fun ky sz ql h1 h2 h3 => ?_)
  exact hok v hv rfl _ _ _ _ _ _ _ _ _ _ _ _ _ _ _ _ _ _ _ _ _ _ _ _ _ _ _ _ _ _ _ _ _ _ _ _ hx ky sz ql (remV_ST hW hn hv h1 h2 h3)
theorem s_L_setQuality {N c : Nat} {SV : Nat → Nat → Nat} {M : Nat → Nat} {st : Int32} {ka ra : Nat → Int64} {sa qa la na wa ta : Nat → Int32} {v0 : Int32} {k0 r0 : Nat → Int64} {s0 q0 l0 n0 w0 t0 : Nat → Int32} {v1 : Int32} {k1 r1 : Nat → Int64} {s1 q1 l1 n1 w1 t1 : Nat → Int32} {v2 : Int32} {k2 r2 : Nat → Int64} {s2 q2 l2 n2 w2 t2 : Nat → Int32} {v3 : Int32} {k3 r3 : Nat → Int64} {s3 q3 l3 n3 w3 t3 : Nat → Int32}  {Q : Int32 → Int32 → Int32 → Int32 → (Nat → Int64) → (Nat → Int32) → (Nat → Int32) → (Nat → Int32) → (Nat → Int64) → (Nat → Int32) → (Nat → Int32) → (Nat → Int32) → (Nat → Int32) → Int32 → (Nat → Int64) → (Nat → Int32) → (Nat → Int32) → (Nat → Int32) → (Nat → Int64) → (Nat → Int32) → (Nat → Int32) → (Nat → Int32) → Int32 → (Nat → Int64) → (Nat → Int32) → (Nat → Int32) → (Nat → Int32) → (Nat → Int64) → (Nat → Int32) → (Nat → Int32) → (Nat → Int32) → Int32 → (Nat → Int64) → (Nat → Int32) → (Nat → Int32) → (Nat → Int32) → (Nat → Int64) → (Nat → Int32) → (Nat → Int32) → (Nat → Int32) → Prop} {x1 x2 : Int32} (hN : 1000 < N) (hc : c ≤ 4) (hW : WF M) (hn : ST M (nI (M 0)) ka sa qa la ra na wa ta) (hk : IK c SV v0 k0 s0 q0 l0 r0 n0 w0 t0 v1 k1 s1 q1 l1 r1 n1 w1 t1 v2 k2 s2 q2 l2 r2 n2 w2 t2 v3 k3 s3 q3 l3 r3 n3 w3 t3)
    (hbad : (∀ v, v < M 0 → x1 ≠ nI v) → Q (-90300) (nI c) st v0 k0 s0 q0 l0 r0 n0 w0 t0 qa v1 k1 s1 q1 l1 r1 n1 w1 t1 v2 k2 s2 q2 l2 r2 n2 w2 t2 v3 k3 s3 q3 l3 r3 n3 w3 t3)
    (hbad2 : ∀ v, v < M 0 → x1 = nI v → (∀ x, x ≤ 1000 → x2 ≠ nI x) → Q (-90100) (nI c) st v0 k0 s0 q0 l0 r0 n0 w0 t0 qa v1 k1 s1 q1 l1 r1 n1 w1 t1 v2 k2 s2 q2 l2 r2 n2 w2 t2 v3 k3 s3 q3 l3 r3 n3 w3 t3)
    (hok : ∀ v x, v < M 0 → x1 = nI v → x ≤ 1000 → x2 = nI x → ∀ (vx0 : Int32) (kx0 rx0 : Nat → Int64) (sx0 qx0 lx0 nx0 wx0 tx0 : Nat → Int32) (vx1 : Int32) (kx1 rx1 : Nat → Int64) (sx1 qx1 lx1 nx1 wx1 tx1 : Nat → Int32) (vx2 : Int32) (kx2 rx2 : Nat → Int64) (sx2 qx2 lx2 nx2 wx2 tx2 : Nat → Int32) (vx3 : Int32) (kx3 rx3 : Nat → Int64) (sx3 qx3 lx3 nx3 wx3 tx3 : Nat → Int32), IK (cx c) (nx c SV M) vx0 kx0 sx0 qx0 lx0 rx0 nx0 wx0 tx0 vx1 kx1 sx1 qx1 lx1 rx1 nx1 wx1 tx1 vx2 kx2 sx2 qx2 lx2 rx2 nx2 wx2 tx2 vx3 kx3 sx3 qx3 lx3 rx3 nx3 wx3 tx3 → ST (setC M (10 + 8 * v + 7) x) (nI (M 0)) ka sa (upd qa v (nI x)) la ra na wa ta → Q (nI (M (10 + 8 * v + 7))) (nI (cx c)) (nI 1) vx0 kx0 sx0 qx0 lx0 rx0 nx0 wx0 tx0 (upd qa v (nI x)) vx1 kx1 sx1 qx1 lx1 rx1 nx1 wx1 tx1 vx2 kx2 sx2 qx2 lx2 rx2 nx2 wx2 tx2 vx3 kx3 sx3 qx3 lx3 rx3 nx3 wx3 tx3) : p_L_setQuality N (nI c) st (nI (M 0)) v0 k0 s0 q0 l0 r0 n0 w0 t0 ka sa qa la ra na wa ta v1 k1 s1 q1 l1 r1 n1 w1 t1 v2 k2 s2 q2 l2 r2 n2 w2 t2 v3 k3 s3 q3 l3 r3 n3 w3 t3 x1 x2 Q := by
  unfold p_L_setQuality p_X5_setQuality
  simp (disch := omega) only [zl, nS]
  have h16 := hW.1
  refine s_hasVariant h16 (fun v hv e => ⟨fun _ => ?_, fun z => absurd z (by decide)⟩) (fun e => ⟨fun z => absurd rfl z, fun _ => ⟨fun z => absurd z (by decide), fun _ => hbad e⟩⟩)
  subst e
  rcases i32 x2 with e | ⟨x, hx, rfl⟩
  · obtain ⟨e1, e2, e3, e4⟩ := i32_n e
    exact ⟨fun _ => ⟨fun _ => hbad2 v hv rfl (fun x hx => e2 x (by omega)), fun z => absurd z (by decide)⟩, fun z => absurd (by rw [e1]; trivial) z⟩
  · simp (disch := omega) only [nS]
    refine ⟨fun z => absurd z (by omega), fun _ => ⟨fun hx2 => ?_, fun hx2 => ⟨fun _ => hbad2 v hv rfl (fun w hw z => ?_), fun z => absurd z (by decide)⟩⟩⟩
    · refine s_save hc hW hn hk (fun vx0 kx0 sx0 qx0 lx0 rx0 nx0 wx0 tx0 vx1 kx1 sx1 qx1 lx1 rx1 nx1 wx1 tx1 vx2 kx2 sx2 qx2 lx2 rx2 nx2 wx2 tx2 vx3 kx3 sx3 qx3 lx3 rx3 nx3 wx3 tx3 hx => ?_)
      refine ⟨by omega, by omega, ?_⟩
      rw [hn.2.2.2.1 v hv]
      exact hok v x hv rfl hx2 rfl _ _ _ _ _ _ _ _ _ _ _ _ _ _ _ _ _ _ _ _ _ _ _ _ _ _ _ _ _ _ _ _ _ _ _ _ hx (setQ_ST hW hn hv)
    · rw [show (nI x = nI w) = (x = w) from nS.2.2.2.2.2.2.2.2.2.1 x w hx (by omega)] at z
      omega
theorem s_L_setSize {N c : Nat} {SV : Nat → Nat → Nat} {M : Nat → Nat} {st : Int32} {ka ra : Nat → Int64} {sa qa la na wa ta : Nat → Int32} {v0 : Int32} {k0 r0 : Nat → Int64} {s0 q0 l0 n0 w0 t0 : Nat → Int32} {v1 : Int32} {k1 r1 : Nat → Int64} {s1 q1 l1 n1 w1 t1 : Nat → Int32} {v2 : Int32} {k2 r2 : Nat → Int64} {s2 q2 l2 n2 w2 t2 : Nat → Int32} {v3 : Int32} {k3 r3 : Nat → Int64} {s3 q3 l3 n3 w3 t3 : Nat → Int32}  {Q : Int32 → Int32 → Int32 → Int32 → (Nat → Int64) → (Nat → Int32) → (Nat → Int32) → (Nat → Int32) → (Nat → Int64) → (Nat → Int32) → (Nat → Int32) → (Nat → Int32) → (Nat → Int32) → Int32 → (Nat → Int64) → (Nat → Int32) → (Nat → Int32) → (Nat → Int32) → (Nat → Int64) → (Nat → Int32) → (Nat → Int32) → (Nat → Int32) → Int32 → (Nat → Int64) → (Nat → Int32) → (Nat → Int32) → (Nat → Int32) → (Nat → Int64) → (Nat → Int32) → (Nat → Int32) → (Nat → Int32) → Int32 → (Nat → Int64) → (Nat → Int32) → (Nat → Int32) → (Nat → Int32) → (Nat → Int64) → (Nat → Int32) → (Nat → Int32) → (Nat → Int32) → Prop} {x1 x2 : Int32} (hN : 1000 < N) (hc : c ≤ 4) (hW : WF M) (hn : ST M (nI (M 0)) ka sa qa la ra na wa ta) (hk : IK c SV v0 k0 s0 q0 l0 r0 n0 w0 t0 v1 k1 s1 q1 l1 r1 n1 w1 t1 v2 k2 s2 q2 l2 r2 n2 w2 t2 v3 k3 s3 q3 l3 r3 n3 w3 t3)
    (hbad : (∀ v, v < M 0 → x1 ≠ nI v) → Q (-90300) (nI c) st v0 k0 s0 q0 l0 r0 n0 w0 t0 sa v1 k1 s1 q1 l1 r1 n1 w1 t1 v2 k2 s2 q2 l2 r2 n2 w2 t2 v3 k3 s3 q3 l3 r3 n3 w3 t3)
    (hbad2 : ∀ v, v < M 0 → x1 = nI v → (∀ x, x ≤ 999999 → x2 ≠ nI x) → Q (-90100) (nI c) st v0 k0 s0 q0 l0 r0 n0 w0 t0 sa v1 k1 s1 q1 l1 r1 n1 w1 t1 v2 k2 s2 q2 l2 r2 n2 w2 t2 v3 k3 s3 q3 l3 r3 n3 w3 t3)
    (hok : ∀ v x, v < M 0 → x1 = nI v → x ≤ 999999 → x2 = nI x → ∀ (vx0 : Int32) (kx0 rx0 : Nat → Int64) (sx0 qx0 lx0 nx0 wx0 tx0 : Nat → Int32) (vx1 : Int32) (kx1 rx1 : Nat → Int64) (sx1 qx1 lx1 nx1 wx1 tx1 : Nat → Int32) (vx2 : Int32) (kx2 rx2 : Nat → Int64) (sx2 qx2 lx2 nx2 wx2 tx2 : Nat → Int32) (vx3 : Int32) (kx3 rx3 : Nat → Int64) (sx3 qx3 lx3 nx3 wx3 tx3 : Nat → Int32), IK (cx c) (nx c SV M) vx0 kx0 sx0 qx0 lx0 rx0 nx0 wx0 tx0 vx1 kx1 sx1 qx1 lx1 rx1 nx1 wx1 tx1 vx2 kx2 sx2 qx2 lx2 rx2 nx2 wx2 tx2 vx3 kx3 sx3 qx3 lx3 rx3 nx3 wx3 tx3 → ST (setC M (10 + 8 * v + 6) x) (nI (M 0)) ka (upd sa v (nI x)) qa la ra na wa ta → Q (nI (M (10 + 8 * v + 6))) (nI (cx c)) (nI 1) vx0 kx0 sx0 qx0 lx0 rx0 nx0 wx0 tx0 (upd sa v (nI x)) vx1 kx1 sx1 qx1 lx1 rx1 nx1 wx1 tx1 vx2 kx2 sx2 qx2 lx2 rx2 nx2 wx2 tx2 vx3 kx3 sx3 qx3 lx3 rx3 nx3 wx3 tx3) : p_L_setSize N (nI c) st (nI (M 0)) v0 k0 s0 q0 l0 r0 n0 w0 t0 ka sa qa la ra na wa ta v1 k1 s1 q1 l1 r1 n1 w1 t1 v2 k2 s2 q2 l2 r2 n2 w2 t2 v3 k3 s3 q3 l3 r3 n3 w3 t3 x1 x2 Q := by
  unfold p_L_setSize p_X5_setSize
  simp (disch := omega) only [zl, nS]
  have h16 := hW.1
  refine s_hasVariant h16 (fun v hv e => ⟨fun _ => ?_, fun z => absurd z (by decide)⟩) (fun e => ⟨fun z => absurd rfl z, fun _ => ⟨fun z => absurd z (by decide), fun _ => hbad e⟩⟩)
  subst e
  rcases i32 x2 with e | ⟨x, hx, rfl⟩
  · obtain ⟨e1, e2, e3, e4⟩ := i32_n e
    exact ⟨fun _ => ⟨fun _ => hbad2 v hv rfl (fun x hx => e2 x (by omega)), fun z => absurd z (by decide)⟩, fun z => absurd (by rw [e1]; trivial) z⟩
  · simp (disch := omega) only [nS]
    refine ⟨fun z => absurd z (by omega), fun _ => ⟨fun hx2 => ?_, fun hx2 => ⟨fun _ => hbad2 v hv rfl (fun w hw z => ?_), fun z => absurd z (by decide)⟩⟩⟩
    · refine s_save hc hW hn hk (fun vx0 kx0 sx0 qx0 lx0 rx0 nx0 wx0 tx0 vx1 kx1 sx1 qx1 lx1 rx1 nx1 wx1 tx1 vx2 kx2 sx2 qx2 lx2 rx2 nx2 wx2 tx2 vx3 kx3 sx3 qx3 lx3 rx3 nx3 wx3 tx3 hx => ?_)
      refine ⟨by omega, by omega, ?_⟩
      rw [hn.2.2.1 v hv]
      exact hok v x hv rfl hx2 rfl _ _ _ _ _ _ _ _ _ _ _ _ _ _ _ _ _ _ _ _ _ _ _ _ _ _ _ _ _ _ _ _ _ _ _ _ hx (setS_ST hW hn hv)
    · rw [show (nI x = nI w) = (x = w) from nS.2.2.2.2.2.2.2.2.2.1 x w hx (by omega)] at z
      omega
theorem s_L_setWeight {N c : Nat} {SV : Nat → Nat → Nat} {M : Nat → Nat} {st : Int32} {ka ra : Nat → Int64} {sa qa la na wa ta : Nat → Int32} {v0 : Int32} {k0 r0 : Nat → Int64} {s0 q0 l0 n0 w0 t0 : Nat → Int32} {v1 : Int32} {k1 r1 : Nat → Int64} {s1 q1 l1 n1 w1 t1 : Nat → Int32} {v2 : Int32} {k2 r2 : Nat → Int64} {s2 q2 l2 n2 w2 t2 : Nat → Int32} {v3 : Int32} {k3 r3 : Nat → Int64} {s3 q3 l3 n3 w3 t3 : Nat → Int32}  {Q : Int32 → Int32 → Int32 → Int32 → (Nat → Int64) → (Nat → Int32) → (Nat → Int32) → (Nat → Int32) → (Nat → Int64) → (Nat → Int32) → (Nat → Int32) → (Nat → Int32) → (Nat → Int32) → Int32 → (Nat → Int64) → (Nat → Int32) → (Nat → Int32) → (Nat → Int32) → (Nat → Int64) → (Nat → Int32) → (Nat → Int32) → (Nat → Int32) → Int32 → (Nat → Int64) → (Nat → Int32) → (Nat → Int32) → (Nat → Int32) → (Nat → Int64) → (Nat → Int32) → (Nat → Int32) → (Nat → Int32) → Int32 → (Nat → Int64) → (Nat → Int32) → (Nat → Int32) → (Nat → Int32) → (Nat → Int64) → (Nat → Int32) → (Nat → Int32) → (Nat → Int32) → Prop} {x1 x2 x3 x4 : Int32} (hN : 1000 < N) (hc : c ≤ 4) (hW : WF M) (hn : ST M (nI (M 0)) ka sa qa la ra na wa ta) (hk : IK c SV v0 k0 s0 q0 l0 r0 n0 w0 t0 v1 k1 s1 q1 l1 r1 n1 w1 t1 v2 k2 s2 q2 l2 r2 n2 w2 t2 v3 k3 s3 q3 l3 r3 n3 w3 t3)
    (hbad : (∀ l e, ¬ isE M x1 x2 x3 l e) → Q (-90300) (nI c) st v0 k0 s0 q0 l0 r0 n0 w0 t0 wa v1 k1 s1 q1 l1 r1 n1 w1 t1 v2 k2 s2 q2 l2 r2 n2 w2 t2 v3 k3 s3 q3 l3 r3 n3 w3 t3)
    (hbad2 : ∀ l e, isE M x1 x2 x3 l e → (∀ x, x ≤ 1000 → x4 ≠ nI x) → Q (-90100) (nI c) st v0 k0 s0 q0 l0 r0 n0 w0 t0 wa v1 k1 s1 q1 l1 r1 n1 w1 t1 v2 k2 s2 q2 l2 r2 n2 w2 t2 v3 k3 s3 q3 l3 r3 n3 w3 t3)
    (hok : ∀ l e x, isE M x1 x2 x3 l e → x ≤ 1000 → x4 = nI x → ∀ (vx0 : Int32) (kx0 rx0 : Nat → Int64) (sx0 qx0 lx0 nx0 wx0 tx0 : Nat → Int32) (vx1 : Int32) (kx1 rx1 : Nat → Int64) (sx1 qx1 lx1 nx1 wx1 tx1 : Nat → Int32) (vx2 : Int32) (kx2 rx2 : Nat → Int64) (sx2 qx2 lx2 nx2 wx2 tx2 : Nat → Int32) (vx3 : Int32) (kx3 rx3 : Nat → Int64) (sx3 qx3 lx3 nx3 wx3 tx3 : Nat → Int32), IK (cx c) (nx c SV M) vx0 kx0 sx0 qx0 lx0 rx0 nx0 wx0 tx0 vx1 kx1 sx1 qx1 lx1 rx1 nx1 wx1 tx1 vx2 kx2 sx2 qx2 lx2 rx2 nx2 wx2 tx2 vx3 kx3 sx3 qx3 lx3 rx3 nx3 wx3 tx3 → ST (setC M (ec l e + 3) x) (nI (M 0)) ka sa qa la ra na (upd wa (l * 10 + e) (nI x)) ta → Q (nI (M (ec l e + 3))) (nI (cx c)) (nI 1) vx0 kx0 sx0 qx0 lx0 rx0 nx0 wx0 tx0 (upd wa (l * 10 + e) (nI x)) vx1 kx1 sx1 qx1 lx1 rx1 nx1 wx1 tx1 vx2 kx2 sx2 qx2 lx2 rx2 nx2 wx2 tx2 vx3 kx3 sx3 qx3 lx3 rx3 nx3 wx3 tx3) : p_L_setWeight N (nI c) st (nI (M 0)) la v0 k0 s0 q0 l0 r0 n0 w0 t0 ka sa qa ra na wa ta v1 k1 s1 q1 l1 r1 n1 w1 t1 v2 k2 s2 q2 l2 r2 n2 w2 t2 v3 k3 s3 q3 l3 r3 n3 w3 t3 x1 x2 x3 x4 Q := by
  unfold p_L_setWeight p_X5_setWeight
  simp (disch := omega) only [zl, nS]
  refine s_hasEntry hn.2.2.2.2.1 hW (fun l e he => ⟨fun _ => ?_, fun z => absurd z (by decide)⟩) (fun e => ⟨fun z => absurd rfl z, fun _ => ⟨fun z => absurd z (by decide), fun _ => hbad e⟩⟩)
  rcases i32 x4 with g | ⟨x, hx, rfl⟩
  · obtain ⟨e1, e2, e3, e4⟩ := i32_n g
    exact ⟨fun _ => ⟨fun _ => hbad2 l e he (fun x hx => e2 x (by omega)), fun z => absurd z (by decide)⟩, fun z => absurd (by rw [e1]; trivial) z⟩
  · simp (disch := omega) only [nS]
    refine ⟨fun z => absurd z (by omega), fun _ => ⟨fun hx2 => ?_, fun hx2 => ⟨fun _ => hbad2 l e he (fun w hw z => ?_), fun z => absurd z (by decide)⟩⟩⟩
    · refine s_save hc hW hn hk (fun vx0 kx0 sx0 qx0 lx0 rx0 nx0 wx0 tx0 vx1 kx1 sx1 qx1 lx1 rx1 nx1 wx1 tx1 vx2 kx2 sx2 qx2 lx2 rx2 nx2 wx2 tx2 vx3 kx3 sx3 qx3 lx3 rx3 nx3 wx3 tx3 hx => ?_)
      have he' := he
      obtain ⟨hl, he, s, k, hs, hk2, hlk, r1, r2, r3⟩ := he
      have h10 := hW.2.1 l hl
      rw [r1, r2, r3]
      refine s_slotOf (s_rowOf ?_)
      rw [show s * 3 + k = l by omega]
      simp (disch := omega) only [nS]
      refine ⟨by omega, by omega, ?_⟩
      rw [hn.2.2.2.2.2.2.2.1 l hl e he]
      exact hok l e x he' hx2 rfl _ _ _ _ _ _ _ _ _ _ _ _ _ _ _ _ _ _ _ _ _ _ _ _ _ _ _ _ _ _ _ _ _ _ _ _ hx (setW_ST hW hn hl he)
    · rw [show (nI x = nI w) = (x = w) from nS.2.2.2.2.2.2.2.2.2.1 x w hx (by omega)] at z
      omega
theorem s_L_removeEntry {N c : Nat} {SV : Nat → Nat → Nat} {M : Nat → Nat} {st : Int32} {ka ra : Nat → Int64} {sa qa la na wa ta : Nat → Int32} {v0 : Int32} {k0 r0 : Nat → Int64} {s0 q0 l0 n0 w0 t0 : Nat → Int32} {v1 : Int32} {k1 r1 : Nat → Int64} {s1 q1 l1 n1 w1 t1 : Nat → Int32} {v2 : Int32} {k2 r2 : Nat → Int64} {s2 q2 l2 n2 w2 t2 : Nat → Int32} {v3 : Int32} {k3 r3 : Nat → Int64} {s3 q3 l3 n3 w3 t3 : Nat → Int32}  {Q : Int32 → Int32 → Int32 → (Nat → Int32) → Int32 → (Nat → Int64) → (Nat → Int32) → (Nat → Int32) → (Nat → Int32) → (Nat → Int64) → (Nat → Int32) → (Nat → Int32) → (Nat → Int32) → (Nat → Int64) → (Nat → Int32) → (Nat → Int32) → Int32 → (Nat → Int64) → (Nat → Int32) → (Nat → Int32) → (Nat → Int32) → (Nat → Int64) → (Nat → Int32) → (Nat → Int32) → (Nat → Int32) → Int32 → (Nat → Int64) → (Nat → Int32) → (Nat → Int32) → (Nat → Int32) → (Nat → Int64) → (Nat → Int32) → (Nat → Int32) → (Nat → Int32) → Int32 → (Nat → Int64) → (Nat → Int32) → (Nat → Int32) → (Nat → Int32) → (Nat → Int64) → (Nat → Int32) → (Nat → Int32) → (Nat → Int32) → Prop} {x1 x2 x3 : Int32} (hN : 1000 < N) (hc : c ≤ 4) (hW : WF M) (hn : ST M (nI (M 0)) ka sa qa la ra na wa ta) (hk : IK c SV v0 k0 s0 q0 l0 r0 n0 w0 t0 v1 k1 s1 q1 l1 r1 n1 w1 t1 v2 k2 s2 q2 l2 r2 n2 w2 t2 v3 k3 s3 q3 l3 r3 n3 w3 t3)
    (hbad : (∀ l e, ¬ isE M x1 x2 x3 l e) → Q (-90300) (nI c) st la v0 k0 s0 q0 l0 r0 n0 w0 t0 ra na wa v1 k1 s1 q1 l1 r1 n1 w1 t1 v2 k2 s2 q2 l2 r2 n2 w2 t2 v3 k3 s3 q3 l3 r3 n3 w3 t3)
    (hok : ∀ l e, isE M x1 x2 x3 l e → ∀ (vx0 : Int32) (kx0 rx0 : Nat → Int64) (sx0 qx0 lx0 nx0 wx0 tx0 : Nat → Int32) (vx1 : Int32) (kx1 rx1 : Nat → Int64) (sx1 qx1 lx1 nx1 wx1 tx1 : Nat → Int32) (vx2 : Int32) (kx2 rx2 : Nat → Int64) (sx2 qx2 lx2 nx2 wx2 tx2 : Nat → Int32) (vx3 : Int32) (kx3 rx3 : Nat → Int64) (sx3 qx3 lx3 nx3 wx3 tx3 : Nat → Int32), IK (cx c) (nx c SV M) vx0 kx0 sx0 qx0 lx0 rx0 nx0 wx0 tx0 vx1 kx1 sx1 qx1 lx1 rx1 nx1 wx1 tx1 vx2 kx2 sx2 qx2 lx2 rx2 nx2 wx2 tx2 vx3 kx3 sx3 qx3 lx3 rx3 nx3 wx3 tx3 → ∀ (lg : Nat → Int32) (rg : Nat → Int64) (ng wg : Nat → Int32), ST (remE M l e) (nI (M 0)) ka sa qa lg rg ng wg ta → Q (nI (M (4 + l) - 1)) (nI (cx c)) (nI 1) lg vx0 kx0 sx0 qx0 lx0 rx0 nx0 wx0 tx0 rg ng wg vx1 kx1 sx1 qx1 lx1 rx1 nx1 wx1 tx1 vx2 kx2 sx2 qx2 lx2 rx2 nx2 wx2 tx2 vx3 kx3 sx3 qx3 lx3 rx3 nx3 wx3 tx3) : p_L_removeEntry N (nI c) st (nI (M 0)) la v0 k0 s0 q0 l0 r0 n0 w0 t0 ka sa qa ra na wa ta v1 k1 s1 q1 l1 r1 n1 w1 t1 v2 k2 s2 q2 l2 r2 n2 w2 t2 v3 k3 s3 q3 l3 r3 n3 w3 t3 x1 x2 x3 Q := by
  unfold p_L_removeEntry p_X5_removeEntry
  simp (disch := omega) only [zl, nS]
  refine s_hasEntry hn.2.2.2.2.1 hW (fun l e he => ⟨fun _ => ?_, fun z => absurd z (by decide)⟩) (fun e => ⟨fun z => absurd rfl z, fun _ => fun _ => hbad e⟩)
  refine s_save hc hW hn hk (fun vx0 kx0 sx0 qx0 lx0 rx0 nx0 wx0 tx0 vx1 kx1 sx1 qx1 lx1 rx1 nx1 wx1 tx1 vx2 kx2 sx2 qx2 lx2 rx2 nx2 wx2 tx2 vx3 kx3 sx3 qx3 lx3 rx3 nx3 wx3 tx3 hx => ?_)
  have he' := he
  obtain ⟨hl, he, s, k, hs, hk2, hlk, r1, r2, r3⟩ := he
  rw [r1, r2, r3]
  refine s_slotOf ?_
  rw [show s * 3 + k = l by omega]
  refine s_dropEntry hN hl (hW.2.1 l hl) (hn.2.2.2.2.1 l hl) he (fun rg ng wg h1 h2 h3 => ?_)
  exact hok l e he' _ _ _ _ _ _ _ _ _ _ _ _ _ _ _ _ _ _ _ _ _ _ _ _ _ _ _ _ _ _ _ _ _ _ _ _ hx _ rg ng wg (remE_ST hW hn hl he h1 h2 h3)
theorem s_L_takeList {N c : Nat} {SV : Nat → Nat → Nat} {M : Nat → Nat} {st : Int32} {ka ra : Nat → Int64} {sa qa la na wa ta : Nat → Int32} {v0 : Int32} {k0 r0 : Nat → Int64} {s0 q0 l0 n0 w0 t0 : Nat → Int32} {v1 : Int32} {k1 r1 : Nat → Int64} {s1 q1 l1 n1 w1 t1 : Nat → Int32} {v2 : Int32} {k2 r2 : Nat → Int64} {s2 q2 l2 n2 w2 t2 : Nat → Int32} {v3 : Int32} {k3 r3 : Nat → Int64} {s3 q3 l3 n3 w3 t3 : Nat → Int32} {e0 : Int32} {e1 : Int32} {e2 : Int64} {e3 : Int32} {e4 : Int32} {e5 : Int32} {er : Nat → Int64} {en : Nat → Int32} {ew : Nat → Int32} {Q : Int32 → Int32 → Int32 → Int32 → Int32 → Int64 → Int32 → Int32 → (Nat → Int64) → (Nat → Int32) → (Nat → Int32) → Int32 → (Nat → Int64) → (Nat → Int32) → (Nat → Int32) → (Nat → Int32) → (Nat → Int64) → (Nat → Int32) → (Nat → Int32) → (Nat → Int32) → (Nat → Int32) → (Nat → Int64) → (Nat → Int32) → (Nat → Int32) → Int32 → (Nat → Int64) → (Nat → Int32) → (Nat → Int32) → (Nat → Int32) → (Nat → Int64) → (Nat → Int32) → (Nat → Int32) → (Nat → Int32) → Int32 → (Nat → Int64) → (Nat → Int32) → (Nat → Int32) → (Nat → Int32) → (Nat → Int64) → (Nat → Int32) → (Nat → Int32) → (Nat → Int32) → Int32 → (Nat → Int64) → (Nat → Int32) → (Nat → Int32) → (Nat → Int32) → (Nat → Int64) → (Nat → Int32) → (Nat → Int32) → (Nat → Int32) → Prop} {tn : Nat} {b : Nat → Nat} (hb : ∀ j, b j < 128) (htn : tn ≤ 120) {x1 x2 : Int32} (hN : 1000 < N) (hc : c ≤ 4) (hW : WF M) (hn : ST M (nI (M 0)) ka sa qa la ra na wa ta) (hk : IK c SV v0 k0 s0 q0 l0 r0 n0 w0 t0 v1 k1 s1 q1 l1 r1 n1 w1 t1 v2 k2 s2 q2 l2 r2 n2 w2 t2 v3 k3 s3 q3 l3 r3 n3 w3 t3)
    (hbad : ¬ isL x1 x2 → Q (-90300) (nI c) st e0 e1 e2 e3 e4 er en ew v0 k0 s0 q0 l0 r0 n0 w0 t0 la ra na wa v1 k1 s1 q1 l1 r1 n1 w1 t1 v2 k2 s2 q2 l2 r2 n2 w2 t2 v3 k3 s3 q3 l3 r3 n3 w3 t3)
    (hfl : ∀ s l, s < 2 → l < 3 → x1 = nI s → x2 = nI l → (lsW b tn l).1 = 0 → ∀ (e0' : Int32) (e1' : Int32) (e2' : Int64) (e3' : Int32) (e4' : Int32) (er' : Nat → Int64) (en' : Nat → Int32) (ew' : Nat → Int32), Q (-nI 10 - nI (lsW b tn l).2.1) (nI c) st e0' e1' e2' e3' e4' er' en' ew' v0 k0 s0 q0 l0 r0 n0 w0 t0 la ra na wa v1 k1 s1 q1 l1 r1 n1 w1 t1 v2 k2 s2 q2 l2 r2 n2 w2 t2 v3 k3 s3 q3 l3 r3 n3 w3 t3)
    (hok : ∀ s l, s < 2 → l < 3 → x1 = nI s → x2 = nI l → (lsW b tn l).1 = 1 → ∀ (e0' : Int32) (e1' : Int32) (e2' : Int64) (e3' : Int32) (e4' : Int32) (er' : Nat → Int64) (en' : Nat → Int32) (ew' : Nat → Int32) (vx0 : Int32) (kx0 rx0 : Nat → Int64) (sx0 qx0 lx0 nx0 wx0 tx0 : Nat → Int32) (vx1 : Int32) (kx1 rx1 : Nat → Int64) (sx1 qx1 lx1 nx1 wx1 tx1 : Nat → Int32) (vx2 : Int32) (kx2 rx2 : Nat → Int64) (sx2 qx2 lx2 nx2 wx2 tx2 : Nat → Int32) (vx3 : Int32) (kx3 rx3 : Nat → Int64) (sx3 qx3 lx3 nx3 wx3 tx3 : Nat → Int32), IK (cx c) (nx c SV M) vx0 kx0 sx0 qx0 lx0 rx0 nx0 wx0 tx0 vx1 kx1 sx1 qx1 lx1 rx1 nx1 wx1 tx1 vx2 kx2 sx2 qx2 lx2 rx2 nx2 wx2 tx2 vx3 kx3 sx3 qx3 lx3 rx3 nx3 wx3 tx3 → ∀ (lg : Nat → Int32) (rg : Nat → Int64) (ng wg : Nat → Int32), ST (setL M (s * 3 + l) (lsW b tn l).2.2.1 (lsW b tn l).2.2.2) (nI (M 0)) ka sa qa lg rg ng wg ta → Q (nI (lsW b tn l).2.2.1) (nI (cx c)) (nI 1) e0' e1' e2' e3' e4' er' en' ew' vx0 kx0 sx0 qx0 lx0 rx0 nx0 wx0 tx0 lg rg ng wg vx1 kx1 sx1 qx1 lx1 rx1 nx1 wx1 tx1 vx2 kx2 sx2 qx2 lx2 rx2 nx2 wx2 tx2 vx3 kx3 sx3 qx3 lx3 rx3 nx3 wx3 tx3) : p_L_takeList N (nI c) st e0 e1 e2 e3 e4 e5 (nI tn) (tB b) er en ew v0 k0 s0 q0 l0 r0 n0 w0 t0 (nI (M 0)) ka sa qa la ra na wa ta v1 k1 s1 q1 l1 r1 n1 w1 t1 v2 k2 s2 q2 l2 r2 n2 w2 t2 v3 k3 s3 q3 l3 r3 n3 w3 t3 x1 x2 Q := by
  unfold p_L_takeList p_X5_takeList
  simp (disch := omega) only [zl, nS, nSm]
  refine s_isList5 (fun h => ⟨fun _ => ?_, fun z => absurd z (by decide)⟩) (fun h => ⟨fun z => absurd rfl z, fun _ => fun _ => hbad h⟩)
  obtain ⟨s, l, hs, hl, rfl, rfl⟩ := h
  obtain ⟨o1, o2, o3⟩ := lsW_out (b := b) (tn := tn) hl
  refine s_readList1 hN hb htn hl (fun p u k m e rs ns ws hr => ?_)
  unfold fault
  rcases o1 with o1 | o1
  · rw [if_neg (by omega)]
    simp (disch := omega) only [nSm]
    exact ⟨fun z => z.elim, fun _ => hfl s l hs hl rfl rfl o1 _ _ _ _ _ _ _ _⟩
  · rw [if_pos o1]
    simp (disch := omega) only [nSm]
    obtain ⟨o4, o5⟩ := o3 o1
    obtain ⟨r1, r2⟩ := hr o1
    subst r1
    refine ⟨fun _ => ?_, fun z => absurd trivial z⟩
    refine s_save hc hW hn hk (fun vx0 kx0 sx0 qx0 lx0 rx0 nx0 wx0 tx0 vx1 kx1 sx1 qx1 lx1 rx1 nx1 wx1 tx1 vx2 kx2 sx2 qx2 lx2 rx2 nx2 wx2 tx2 vx3 kx3 sx3 qx3 lx3 rx3 nx3 wx3 tx3 hx => ?_)
    refine s_slotOf (s_putList hN (by omega) o4 (fun rg ng wg h1 h2 h3 => ?_))
    have e3 : (s * 3 + l) % 3 = l := by omega
    exact hok s l hs hl rfl rfl o1 _ _ _ _ _ _ _ _ _ _ _ _ _ _ _ _ _ _ _ _ _ _ _ _ _ _ _ _ _ _ _ _ _ _ _ _ _ _ _ _ _ _ _ _ hx _ rg ng wg (setL_ST hW hn (by omega) o4 (by rw [e3]; exact r2) h1 h2 h3)
theorem s_L_setTies {N c : Nat} {SV : Nat → Nat → Nat} {M : Nat → Nat} {st : Int32} {ka ra : Nat → Int64} {sa qa la na wa ta : Nat → Int32} {v0 : Int32} {k0 r0 : Nat → Int64} {s0 q0 l0 n0 w0 t0 : Nat → Int32} {v1 : Int32} {k1 r1 : Nat → Int64} {s1 q1 l1 n1 w1 t1 : Nat → Int32} {v2 : Int32} {k2 r2 : Nat → Int64} {s2 q2 l2 n2 w2 t2 : Nat → Int32} {v3 : Int32} {k3 r3 : Nat → Int64} {s3 q3 l3 n3 w3 t3 : Nat → Int32}  {Q : Int32 → Int32 → Int32 → Int32 → (Nat → Int64) → (Nat → Int32) → (Nat → Int32) → (Nat → Int32) → (Nat → Int64) → (Nat → Int32) → (Nat → Int32) → (Nat → Int32) → (Nat → Int32) → Int32 → (Nat → Int64) → (Nat → Int32) → (Nat → Int32) → (Nat → Int32) → (Nat → Int64) → (Nat → Int32) → (Nat → Int32) → (Nat → Int32) → Int32 → (Nat → Int64) → (Nat → Int32) → (Nat → Int32) → (Nat → Int32) → (Nat → Int64) → (Nat → Int32) → (Nat → Int32) → (Nat → Int32) → Int32 → (Nat → Int64) → (Nat → Int32) → (Nat → Int32) → (Nat → Int32) → (Nat → Int64) → (Nat → Int32) → (Nat → Int32) → (Nat → Int32) → Prop} {x1 x2 x3 : Int32} (hN : 1000 < N) (hc : c ≤ 4) (hW : WF M) (hn : ST M (nI (M 0)) ka sa qa la ra na wa ta) (hk : IK c SV v0 k0 s0 q0 l0 r0 n0 w0 t0 v1 k1 s1 q1 l1 r1 n1 w1 t1 v2 k2 s2 q2 l2 r2 n2 w2 t2 v3 k3 s3 q3 l3 r3 n3 w3 t3)
    (hbad : (∀ a b d, a ≤ 5 → b ≤ 5 → d ≤ 5 → ¬ (x1 = nI a ∧ x2 = nI b ∧ x3 = nI d)) → Q (-90100) (nI c) st v0 k0 s0 q0 l0 r0 n0 w0 t0 ta v1 k1 s1 q1 l1 r1 n1 w1 t1 v2 k2 s2 q2 l2 r2 n2 w2 t2 v3 k3 s3 q3 l3 r3 n3 w3 t3)
    (hok : ∀ a b d, a ≤ 5 → b ≤ 5 → d ≤ 5 → x1 = nI a → x2 = nI b → x3 = nI d → ∀ (vx0 : Int32) (kx0 rx0 : Nat → Int64) (sx0 qx0 lx0 nx0 wx0 tx0 : Nat → Int32) (vx1 : Int32) (kx1 rx1 : Nat → Int64) (sx1 qx1 lx1 nx1 wx1 tx1 : Nat → Int32) (vx2 : Int32) (kx2 rx2 : Nat → Int64) (sx2 qx2 lx2 nx2 wx2 tx2 : Nat → Int32) (vx3 : Int32) (kx3 rx3 : Nat → Int64) (sx3 qx3 lx3 nx3 wx3 tx3 : Nat → Int32), IK (cx c) (nx c SV M) vx0 kx0 sx0 qx0 lx0 rx0 nx0 wx0 tx0 vx1 kx1 sx1 qx1 lx1 rx1 nx1 wx1 tx1 vx2 kx2 sx2 qx2 lx2 rx2 nx2 wx2 tx2 vx3 kx3 sx3 qx3 lx3 rx3 nx3 wx3 tx3 → ST (setT M a b d) (nI (M 0)) ka sa qa la ra na wa (upd (upd (upd ta 0 (nI a)) 1 (nI b)) 2 (nI d)) → Q (nI (100 * M 1 + 10 * M 2 + M 3)) (nI (cx c)) (nI 1) vx0 kx0 sx0 qx0 lx0 rx0 nx0 wx0 tx0 (upd (upd (upd ta 0 (nI a)) 1 (nI b)) 2 (nI d)) vx1 kx1 sx1 qx1 lx1 rx1 nx1 wx1 tx1 vx2 kx2 sx2 qx2 lx2 rx2 nx2 wx2 tx2 vx3 kx3 sx3 qx3 lx3 rx3 nx3 wx3 tx3) : p_L_setTies N (nI c) st v0 k0 s0 q0 l0 r0 n0 w0 t0 (nI (M 0)) ka sa qa la ra na wa ta v1 k1 s1 q1 l1 r1 n1 w1 t1 v2 k2 s2 q2 l2 r2 n2 w2 t2 v3 k3 s3 q3 l3 r3 n3 w3 t3 x1 x2 x3 Q := by
  unfold p_L_setTies p_X5_setTies
  simp (disch := omega) only [zl, nS]
  have i0 := hn.2.2.2.2.2.2.2.2 0 (by decide)
  have i1 := hn.2.2.2.2.2.2.2.2 1 (by decide)
  have i2 := hn.2.2.2.2.2.2.2.2 2 (by decide)
  refine s_isRule (fun a ha e => ⟨fun z => absurd z (by decide), fun _ => ?_⟩) (fun e => ⟨fun _ => fun _ => hbad (fun a b d ha hb hd h => e a ha h.1), fun z => absurd rfl z⟩)
  refine s_isRule (fun b hb2 e2 => ⟨fun z => absurd z (by decide), fun _ => ?_⟩) (fun e => ⟨fun _ => fun _ => hbad (fun a b d ha hb hd h => e b hb h.2.1), fun z => absurd rfl z⟩)
  refine s_isRule (fun d hd e3 => ⟨fun _ => ?_, fun z => absurd z (by decide)⟩) (fun e => ⟨fun z => absurd rfl z, fun _ => fun _ => hbad (fun a b d ha hb hd h => e d hd h.2.2)⟩)
  subst e
  subst e2
  subst e3
  refine s_save hc hW hn hk (fun vx0 kx0 sx0 qx0 lx0 rx0 nx0 wx0 tx0 vx1 kx1 sx1 qx1 lx1 rx1 nx1 wx1 tx1 vx2 kx2 sx2 qx2 lx2 rx2 nx2 wx2 tx2 vx3 kx3 sx3 qx3 lx3 rx3 nx3 wx3 tx3 hx => ?_)
  rw [i0, i1, i2]
  simp only [nS]
  exact hok a b d ha hb2 hd rfl rfl rfl _ _ _ _ _ _ _ _ _ _ _ _ _ _ _ _ _ _ _ _ _ _ _ _ _ _ _ _ _ _ _ _ _ _ _ _ hx (setT_ST hn)
theorem s_L_addVariant {N c : Nat} {SV : Nat → Nat → Nat} {M : Nat → Nat} {st : Int32} {ka ra : Nat → Int64} {sa qa la na wa ta : Nat → Int32} {v0 : Int32} {k0 r0 : Nat → Int64} {s0 q0 l0 n0 w0 t0 : Nat → Int32} {v1 : Int32} {k1 r1 : Nat → Int64} {s1 q1 l1 n1 w1 t1 : Nat → Int32} {v2 : Int32} {k2 r2 : Nat → Int64} {s2 q2 l2 n2 w2 t2 : Nat → Int32} {v3 : Int32} {k3 r3 : Nat → Int64} {s3 q3 l3 n3 w3 t3 : Nat → Int32} {e0 : Int32} {e1 : Int32} {e2 : Int64} {e3 : Int32} {e4 : Int32} {e5 : Int32} {ek : Nat → Int64} {Q : Int32 → Int32 → Int32 → Int32 → Int32 → Int64 → Int32 → Int32 → (Nat → Int64) → Int32 → (Nat → Int64) → Int32 → (Nat → Int64) → (Nat → Int32) → (Nat → Int32) → (Nat → Int32) → (Nat → Int64) → (Nat → Int32) → (Nat → Int32) → (Nat → Int32) → (Nat → Int32) → (Nat → Int32) → Int32 → (Nat → Int64) → (Nat → Int32) → (Nat → Int32) → (Nat → Int32) → (Nat → Int64) → (Nat → Int32) → (Nat → Int32) → (Nat → Int32) → Int32 → (Nat → Int64) → (Nat → Int32) → (Nat → Int32) → (Nat → Int32) → (Nat → Int64) → (Nat → Int32) → (Nat → Int32) → (Nat → Int32) → Int32 → (Nat → Int64) → (Nat → Int32) → (Nat → Int32) → (Nat → Int32) → (Nat → Int64) → (Nat → Int32) → (Nat → Int32) → (Nat → Int32) → Prop} {tn : Nat} {b : Nat → Nat} (hb : ∀ j, b j < 128) (htn : tn ≤ 120) (hN : 1000 < N) (hc : c ≤ 4) (hW : WF M) (hn : ST M (nI (M 0)) ka sa qa la ra na wa ta) (hk : IK c SV v0 k0 s0 q0 l0 r0 n0 w0 t0 v1 k1 s1 q1 l1 r1 n1 w1 t1 v2 k2 s2 q2 l2 r2 n2 w2 t2 v3 k3 s3 q3 l3 r3 n3 w3 t3)
    (hfl : (vsW b tn).1 = 0 → ∀ (e0' : Int32) (e1' : Int32) (e2' : Int64) (e3' : Int32) (e5' : Int32) (ek' : Nat → Int64), Q (-nI 10 - nI (vsW b tn).2.1) (nI c) st e0' e1' e2' e3' e5' ek' (nI (M 0)) ka v0 k0 s0 q0 l0 r0 n0 w0 t0 sa qa v1 k1 s1 q1 l1 r1 n1 w1 t1 v2 k2 s2 q2 l2 r2 n2 w2 t2 v3 k3 s3 q3 l3 r3 n3 w3 t3)
    (hbad : (vsW b tn).1 = 1 → (M 0 = 16 ∨ ∃ v, v < M 0 ∧ tw M (VC b tn) v) → ∀ (e0' : Int32) (e1' : Int32) (e2' : Int64) (e3' : Int32) (e5' : Int32) (ek' : Nat → Int64), Q (-90200) (nI c) st e0' e1' e2' e3' e5' ek' (nI (M 0)) ka v0 k0 s0 q0 l0 r0 n0 w0 t0 sa qa v1 k1 s1 q1 l1 r1 n1 w1 t1 v2 k2 s2 q2 l2 r2 n2 w2 t2 v3 k3 s3 q3 l3 r3 n3 w3 t3)
    (hok : (vsW b tn).1 = 1 → M 0 < 16 → (∀ v, v < M 0 → ¬ tw M (VC b tn) v) → ∀ (e0' : Int32) (e1' : Int32) (e2' : Int64) (e3' : Int32) (e5' : Int32) (ek' : Nat → Int64) (vx0 : Int32) (kx0 rx0 : Nat → Int64) (sx0 qx0 lx0 nx0 wx0 tx0 : Nat → Int32) (vx1 : Int32) (kx1 rx1 : Nat → Int64) (sx1 qx1 lx1 nx1 wx1 tx1 : Nat → Int32) (vx2 : Int32) (kx2 rx2 : Nat → Int64) (sx2 qx2 lx2 nx2 wx2 tx2 : Nat → Int32) (vx3 : Int32) (kx3 rx3 : Nat → Int64) (sx3 qx3 lx3 nx3 wx3 tx3 : Nat → Int32), IK (cx c) (nx c SV M) vx0 kx0 sx0 qx0 lx0 rx0 nx0 wx0 tx0 vx1 kx1 sx1 qx1 lx1 rx1 nx1 wx1 tx1 vx2 kx2 sx2 qx2 lx2 rx2 nx2 wx2 tx2 vx3 kx3 sx3 qx3 lx3 rx3 nx3 wx3 tx3 → ∀ (ky : Nat → Int64) (sz ql : Nat → Int32), ST (addV M (VC b tn) (vsW b tn).2.2) (nI (M 0 + 1)) ky sz ql la ra na wa ta → Q (nI (M 0)) (nI (cx c)) (nI 1) e0' e1' e2' e3' e5' ek' (nI (M 0 + 1)) ky vx0 kx0 sx0 qx0 lx0 rx0 nx0 wx0 tx0 sz ql vx1 kx1 sx1 qx1 lx1 rx1 nx1 wx1 tx1 vx2 kx2 sx2 qx2 lx2 rx2 nx2 wx2 tx2 vx3 kx3 sx3 qx3 lx3 rx3 nx3 wx3 tx3) : p_L_addVariant N (nI c) st e0 e1 e2 e3 e4 e5 (nI tn) (tB b) ek (nI (M 0)) ka v0 k0 s0 q0 l0 r0 n0 w0 t0 sa qa la ra na wa ta v1 k1 s1 q1 l1 r1 n1 w1 t1 v2 k2 s2 q2 l2 r2 n2 w2 t2 v3 k3 s3 q3 l3 r3 n3 w3 t3 Q := by
  unfold p_L_addVariant p_X5_addVariant
  have h16 := hW.1
  simp (disch := omega) only [zl, nS, nSm]
  obtain ⟨o1, o2, o3⟩ := vsW_out (b := b) (tn := tn)
  refine s_readVariant1 hN hb htn (fun p u k m sz kk hr => ?_)
  unfold faultV
  rcases o1 with o1 | o1
  · rw [if_neg (by omega)]
    simp (disch := omega) only [nSm]
    exact ⟨fun z => z.elim, fun _ => hfl o1 _ _ _ _ _ _⟩
  · rw [if_pos o1]
    simp (disch := omega) only [nSm]
    obtain ⟨o4, o5⟩ := o3 o1
    obtain ⟨r1, r2⟩ := hr o1
    subst r1
    refine ⟨fun _ => ⟨fun h => ?_, fun h => fun _ => hbad o1 (Or.inl (by omega)) _ _ _ _ _ _⟩, fun z => absurd trivial z⟩
    refine s_hasTwin hN hW hn.2.1 (VC_ok o5) (KY_k3 o5 r2) (fun v hv t => ⟨fun z => absurd z (by decide), fun _ => fun _ => hbad o1 (Or.inr ⟨v, hv, t⟩) _ _ _ _ _ _⟩) (fun ht => ⟨fun _ => ?_, fun z => absurd rfl z⟩)
    refine s_save hc hW hn hk (fun vx0 kx0 sx0 qx0 lx0 rx0 nx0 wx0 tx0 vx1 kx1 sx1 qx1 lx1 rx1 nx1 wx1 tx1 vx2 kx2 sx2 qx2 lx2 rx2 nx2 wx2 tx2 vx3 kx3 sx3 qx3 lx3 rx3 nx3 wx3 tx3 hx => ?_)
    refine s_putVariant hN h (fun ky hky => ?_)
    exact hok o1 h ht _ _ _ _ _ _ _ _ _ _ _ _ _ _ _ _ _ _ _ _ _ _ _ _ _ _ _ _ _ _ _ _ _ _ _ _ _ _ _ _ _ _ hx ky _ _ (addV_ST hW hn h (KY_k3 o5 r2) hky)
theorem s_L_undo {N c : Nat} {SV : Nat → Nat → Nat} {M : Nat → Nat} {st : Int32} {ka ra : Nat → Int64} {sa qa la na wa ta : Nat → Int32} {v0 : Int32} {k0 r0 : Nat → Int64} {s0 q0 l0 n0 w0 t0 : Nat → Int32} {v1 : Int32} {k1 r1 : Nat → Int64} {s1 q1 l1 n1 w1 t1 : Nat → Int32} {v2 : Int32} {k2 r2 : Nat → Int64} {s2 q2 l2 n2 w2 t2 : Nat → Int32} {v3 : Int32} {k3 r3 : Nat → Int64} {s3 q3 l3 n3 w3 t3 : Nat → Int32}  {Q : Int32 → Int32 → Int32 → Int32 → (Nat → Int64) → (Nat → Int32) → (Nat → Int32) → (Nat → Int32) → (Nat → Int64) → (Nat → Int32) → (Nat → Int32) → (Nat → Int32) → Prop} (hN : 1000 < N) (hc : c ≤ 4) (hW : WF M) (hn : ST M (nI (M 0)) ka sa qa la ra na wa ta) (hKW : KW c SV) (hk : IK c SV v0 k0 s0 q0 l0 r0 n0 w0 t0 v1 k1 s1 q1 l1 r1 n1 w1 t1 v2 k2 s2 q2 l2 r2 n2 w2 t2 v3 k3 s3 q3 l3 r3 n3 w3 t3)
    (hbad : c = 0 → Q (-90200) (nI c) st (nI (M 0)) ka sa qa la ra na wa ta)
    (hok : 0 < c → ∀ (vx : Int32) (kx rx : Nat → Int64) (sx qx lx nx wx tx : Nat → Int32), ST (SV (c - 1)) vx kx sx qx lx rx nx wx tx → Q (nI (c - 1)) (nI (c - 1)) (nI 1) vx kx sx qx lx rx nx wx tx) : p_L_undo N (nI c) st (nI (M 0)) ka sa qa la ra na wa ta v0 k0 s0 q0 l0 r0 n0 w0 t0 v1 k1 s1 q1 l1 r1 n1 w1 t1 v2 k2 s2 q2 l2 r2 n2 w2 t2 v3 k3 s3 q3 l3 r3 n3 w3 t3 Q := by
  unfold p_L_undo p_X5_undo
  simp (disch := omega) only [zl, nS]
  refine ⟨fun h => ?_, fun h => fun _ => hbad (by omega)⟩
  simp (disch := omega) only [nS]
  refine ⟨by omega, fun h0 => ?_, fun h0 => ?_, fun h0 => ?_, fun h0 => ?_⟩
  · have e : c = 1 := by omega
    subst e
    exact s_copyFrom (hKW 0 (by decide)) (hk.1 (by decide)) (fun vx kx sx qx lx rx nx wx tx hx => hok (by decide) _ _ _ _ _ _ _ _ _ hx)
  · have e : c = 2 := by omega
    subst e
    exact s_copyFrom (hKW 1 (by decide)) (hk.2.1 (by decide)) (fun vx kx sx qx lx rx nx wx tx hx => hok (by decide) _ _ _ _ _ _ _ _ _ hx)
  · have e : c = 3 := by omega
    subst e
    exact s_copyFrom (hKW 2 (by decide)) (hk.2.2.1 (by decide)) (fun vx kx sx qx lx rx nx wx tx hx => hok (by decide) _ _ _ _ _ _ _ _ _ hx)
  · have e : c = 4 := by omega
    subst e
    exact s_copyFrom (hKW 3 (by decide)) (hk.2.2.2 (by decide)) (fun vx kx sx qx lx rx nx wx tx hx => hok (by decide) _ _ _ _ _ _ _ _ _ hx)
theorem s_L_listFault {N c : Nat} {st : Int32} {e0 : Int32} {e1 : Int32} {e2 : Int64} {e3 : Int32} {e4 : Int32} {er : Nat → Int64} {en : Nat → Int32} {ew : Nat → Int32} {e5 : Int32} {x1 : Int32} {tn : Nat} {b : Nat → Nat} {Q : Int32 → Int32 → Int32 → Int64 → Int32 → Int32 → (Nat → Int64) → (Nat → Int32) → (Nat → Int32) → Prop} (hN : 1000 < N) (hb : ∀ j, b j < 128) (htn : tn ≤ 120)
    (hbad : (∀ l, l < 3 → x1 ≠ nI l) → Q (-90300) e0 e1 e2 e3 e4 er en ew)
    (hok : ∀ l, l < 3 → x1 = nI l → ∀ (e0' : Int32) (e1' : Int32) (e2' : Int64) (e3' : Int32) (e4' : Int32) (er' : Nat → Int64) (en' : Nat → Int32) (ew' : Nat → Int32), Q (fault (lsW b tn l)) e0' e1' e2' e3' e4' er' en' ew') : p_L_listFault N (nI c) st e0 e1 e2 e3 e4 e5 (nI tn) (tB b) er en ew x1 Q := by
  unfold p_L_listFault p_X5_listFault
  simp (disch := omega) only [zl, nS]
  refine s_isList5 (fun h => ⟨fun _ => ?_, fun z => absurd z (by decide)⟩) (fun h => ⟨fun z => absurd rfl z, fun _ => fun _ => hbad (fun l hl e => h ⟨0, l, by decide, hl, rfl, e⟩)⟩)
  obtain ⟨s, l, hs, hl, _, rfl⟩ := h
  exact s_readList1 hN hb htn hl (fun p u k m e rs ns ws hr => hok l hl rfl _ _ _ _ _ _ _ _)
theorem s_L_type {N tn : Nat} {b : Nat → Nat} {c0 c1 x1 : Int32} {Q : Int32 → Int32 → (Nat → Int32) → Prop} (htn : tn ≤ 120)
    (hbad : (∀ x, x ≤ 127 → x1 ≠ nI x) → Q (-90100) (nI tn) (tB b)) (hfull : ∀ x, x ≤ 127 → x1 = nI x → tn = 120 → Q (-90200) (nI tn) (tB b))
    (hok : ∀ x, x ≤ 127 → x1 = nI x → tn < 120 → Q (nI (tn + 1)) (nI (tn + 1)) (tB (put1 b tn x))) : p_L_type N c0 c1 (nI tn) (tB b) x1 Q := by
  unfold p_L_type p_X5_type p_X4_append
  simp (disch := omega) only [zl, nS]
  rcases i32 x1 with e | ⟨x, hx, rfl⟩
  · obtain ⟨e1, e2, e3, e4⟩ := i32_n e
    exact ⟨fun _ => ⟨fun _ => hbad (fun x hx => e2 x (by omega)), fun z => absurd z (by decide)⟩, fun z => absurd (by rw [e1]; trivial) z⟩
  · simp (disch := omega) only [nS]
    refine ⟨fun z => absurd z (by omega), fun _ => ⟨fun h => ⟨fun h2 => ⟨fun z => absurd z (by omega), fun _ => ⟨h2, ?_⟩⟩, fun h2 => ⟨fun z => absurd z (by decide), fun _ => hfull x h rfl (by omega)⟩⟩, fun h => ⟨fun _ => hbad (fun y hy z => ?_), fun z => absurd z (by decide)⟩⟩⟩
    · rw [nar_b x (by omega), put1_e]
      have hh := hok x h rfl h2
      exact hh
    · rw [show (nI x = nI y) = (x = y) from nS.2.2.2.2.2.2.2.2.2.1 x y hx (by omega)] at z
      omega
theorem s_L_variant {N : Nat} {M : Nat → Nat} {kc x1 x2 : Int32} {st rc ll : Int32} {ps ws scs tr rks ord lo lp lb : Nat → Int32} {keys ranges : Nat → Int64} {sizes qs lengths names weights ties : Nat → Int32} {Q : Int32 → Int32 → Int32 → (Nat → Int32) → (Nat → Int32) → (Nat → Int32) → (Nat → Int32) → (Nat → Int32) → (Nat → Int32) → Int32 → (Nat → Int32) → (Nat → Int32) → (Nat → Int32) → Prop} (hN : 1000 < N) (hW : WF M) (hST : ST M (nI (M 0)) keys sizes qs lengths ranges names weights ties) (hD : OKD M st rc ps ws scs tr rks ord ll lo lp lb)
    (hno : (∀ v, v < M 0 → x1 ≠ nI v) → Q (-90300) st rc ps ws scs tr rks ord ll lo lp lb)
    (hwh : ∀ v, v < M 0 → x1 = nI v → (∀ w, w ≤ 6 → x2 ≠ nI w) → Q (-90100) st rc ps ws scs tr rks ord ll lo lp lb)
    (hok : ∀ v w, v < M 0 → x1 = nI v → w ≤ 6 → x2 = nI w → ∀ st rc ps ws scs tr rks ord ll lo lp lb, OKD M st rc ps ws scs tr rks ord ll lo lp lb → Q (vlV M v w) st rc ps ws scs tr rks ord ll lo lp lb) : p_L_variant N kc st (nI (M 0)) rc lengths names keys ranges ps weights ws qs scs ties sizes tr rks ord ll lo lp lb x1 x2 Q := by
  have h16 := hW.1
  unfold p_L_variant p_X5_variant
  simp (disch := omega) only [zl, nS]
  refine s_hasVariant h16 (fun v hv e => ⟨fun _ => ?_, fun z => absurd z (by decide)⟩) (fun e => ⟨fun z => absurd rfl z, fun _ => ⟨fun z => absurd z (by decide), fun _ => hno e⟩⟩)
  subst e
  refine br_rng (hi := 6) (by decide) (fun w hw e => ?_) (fun e => ⟨⟨fun _ => hwh v hv rfl e, fun z => absurd z (by decide)⟩, ⟨fun _ => hwh v hv rfl e, fun z => absurd z (by decide)⟩⟩)
  subst e
  refine s_settle hN hW hST hD (fun rc ps ws scs tr rks ord ll lo lp lb h1 h2 => ?_)
  exact s_variantValue hN hW hST.2.1 hST.2.2.1 hST.2.2.2.1 h1 h2 hv hw (hok v w hv rfl hw rfl (nI 0) rc ps ws scs tr rks ord ll lo lp lb (Or.inr ⟨rfl, h1, h2⟩))
theorem s_L_weight {N : Nat} {M : Nat → Nat} {kc x1 x2 x3 : Int32} {st rc ll : Int32} {ps ws scs tr rks ord lo lp lb : Nat → Int32} {keys ranges : Nat → Int64} {sizes qs lengths names weights ties : Nat → Int32} {Q : Int32 → Int32 → Int32 → (Nat → Int32) → (Nat → Int32) → (Nat → Int32) → (Nat → Int32) → (Nat → Int32) → (Nat → Int32) → Int32 → (Nat → Int32) → (Nat → Int32) → (Nat → Int32) → Prop} (hN : 1000 < N) (hW : WF M) (hST : ST M (nI (M 0)) keys sizes qs lengths ranges names weights ties) (hD : OKD M st rc ps ws scs tr rks ord ll lo lp lb)
    (hno : ¬ isL x1 x2 → Q (-90300) st rc ps ws scs tr rks ord ll lo lp lb)
    (hno2 : isL x1 x2 → (∀ v, v < M 0 → x3 ≠ nI v) → Q (-90300) st rc ps ws scs tr rks ord ll lo lp lb)
    (hok : ∀ s l v, s < 2 → l < 3 → x1 = nI s → x2 = nI l → v < M 0 → x3 = nI v → ∀ st rc ps ws scs tr rks ord ll lo lp lb, OKD M st rc ps ws scs tr rks ord ll lo lp lb → Q (nI (wE M 0 (s * 3 + l) v)) st rc ps ws scs tr rks ord ll lo lp lb) : p_L_weight N kc st (nI (M 0)) rc lengths names keys ranges ps weights ws qs scs ties sizes tr rks ord ll lo lp lb x1 x2 x3 Q := by
  have h16 := hW.1
  unfold p_L_weight p_X5_weight
  simp (disch := omega) only [zl, nS]
  refine s_isList5 (fun h => ⟨fun z => absurd z (by decide), fun _ => ?_⟩) (fun h => ⟨fun _ _ => hno h, fun z => absurd rfl z⟩)
  refine s_hasVariant h16 (fun v hv e => ⟨fun _ => ?_, fun z => absurd z (by decide)⟩) (fun e => ⟨fun z => absurd rfl z, fun _ _ => hno2 h e⟩)
  obtain ⟨s, l, hs, hl, rfl, rfl⟩ := h
  subst e
  refine s_settle hN hW hST hD (fun rc ps ws scs tr rks ord ll lo lp lb h1 h2 => ?_)
  refine s_slotOf (s_cellOf ?_)
  simp (disch := omega) only [nS]
  rw [h1.2.1 v hv _ (by omega)]
  exact ⟨by omega, hok s l v hs hl rfl rfl hv rfl (nI 0) rc ps ws scs tr rks ord ll lo lp lb (Or.inr ⟨rfl, h1, h2⟩)⟩
theorem s_L_counting {N : Nat} {M : Nat → Nat} {kc x1 x2 x3 : Int32} {st rc ll : Int32} {ps ws scs tr rks ord lo lp lb : Nat → Int32} {keys ranges : Nat → Int64} {sizes qs lengths names weights ties : Nat → Int32} {Q : Int32 → Int32 → Int32 → (Nat → Int32) → (Nat → Int32) → (Nat → Int32) → (Nat → Int32) → (Nat → Int32) → (Nat → Int32) → Int32 → (Nat → Int32) → (Nat → Int32) → (Nat → Int32) → Prop} (hN : 1000 < N) (hW : WF M) (hST : ST M (nI (M 0)) keys sizes qs lengths ranges names weights ties) (hD : OKD M st rc ps ws scs tr rks ord ll lo lp lb)
    (hno : ¬ isL x1 x2 → Q (-90300) st rc ps ws scs tr rks ord ll lo lp lb)
    (hno2 : isL x1 x2 → (∀ v, v < M 0 → x3 ≠ nI v) → Q (-90300) st rc ps ws scs tr rks ord ll lo lp lb)
    (hok : ∀ s l v, s < 2 → l < 3 → x1 = nI s → x2 = nI l → v < M 0 → x3 = nI v → ∀ st rc ps ws scs tr rks ord ll lo lp lb, OKD M st rc ps ws scs tr rks ord ll lo lp lb → Q (nP (plW M (s * 3 + l) v)) st rc ps ws scs tr rks ord ll lo lp lb) : p_L_counting N kc st (nI (M 0)) rc lengths names keys ranges ps weights ws qs scs ties sizes tr rks ord ll lo lp lb x1 x2 x3 Q := by
  have h16 := hW.1
  unfold p_L_counting p_X5_counting
  simp (disch := omega) only [zl, nS]
  refine s_isList5 (fun h => ⟨fun z => absurd z (by decide), fun _ => ?_⟩) (fun h => ⟨fun _ _ => hno h, fun z => absurd rfl z⟩)
  refine s_hasVariant h16 (fun v hv e => ⟨fun _ => ?_, fun z => absurd z (by decide)⟩) (fun e => ⟨fun z => absurd rfl z, fun _ _ => hno2 h e⟩)
  obtain ⟨s, l, hs, hl, rfl, rfl⟩ := h
  subst e
  refine s_settle hN hW hST hD (fun rc ps ws scs tr rks ord ll lo lp lb h1 h2 => ?_)
  refine s_slotOf (s_cellOf ?_)
  simp (disch := omega) only [nS]
  rw [h1.1 v hv _ (by omega)]
  rw [if_neg (by omega)]
  exact ⟨by omega, hok s l v hs hl rfl rfl hv rfl (nI 0) rc ps ws scs tr rks ord ll lo lp lb (Or.inr ⟨rfl, h1, h2⟩)⟩
theorem s_L_entry {N : Nat} {M : Nat → Nat} {kc x1 x2 x3 x4 : Int32} {st rc ll : Int32} {ps ws scs tr rks ord lo lp lb : Nat → Int32} {keys ranges : Nat → Int64} {sizes qs lengths names weights ties : Nat → Int32} {Q : Int32 → Int32 → Int32 → (Nat → Int32) → (Nat → Int32) → (Nat → Int32) → (Nat → Int32) → (Nat → Int32) → (Nat → Int32) → Int32 → (Nat → Int32) → (Nat → Int32) → (Nat → Int32) → Prop} (hN : 1000 < N) (hW : WF M) (hST : ST M (nI (M 0)) keys sizes qs lengths ranges names weights ties) (hD : OKD M st rc ps ws scs tr rks ord ll lo lp lb)
    (hno : (∀ l e, ¬ isE M x1 x2 x3 l e) → Q (-90300) st rc ps ws scs tr rks ord ll lo lp lb)
    (hwh : ∀ l e, isE M x1 x2 x3 l e → (∀ w, w ≤ 3 → x4 ≠ nI w) → Q (-90100) st rc ps ws scs tr rks ord ll lo lp lb)
    (hok : ∀ l e w, isE M x1 x2 x3 l e → w ≤ 3 → x4 = nI w → ∀ st rc ps ws scs tr rks ord ll lo lp lb, OKD M st rc ps ws scs tr rks ord ll lo lp lb → Q (nI (eV M l e w)) st rc ps ws scs tr rks ord ll lo lp lb) : p_L_entry N kc st (nI (M 0)) lengths rc names keys ranges ps weights ws qs scs ties sizes tr rks ord ll lo lp lb x1 x2 x3 x4 Q := by
  have h16 := hW.1
  unfold p_L_entry p_X5_entry
  simp (disch := omega) only [zl, nS]
  refine s_hasEntry hST.2.2.2.2.1 hW (fun l e h => ⟨fun _ => ?_, fun z => absurd z (by decide)⟩) (fun h => ⟨fun z => absurd rfl z, fun _ => ⟨fun z => absurd z (by decide), fun _ => hno h⟩⟩)
  refine br_rng (hi := 3) (by decide) (fun w hw e2 => ?_) (fun e2 => ⟨⟨fun _ => hwh l e h e2, fun z => absurd z (by decide)⟩, ⟨fun _ => hwh l e h e2, fun z => absurd z (by decide)⟩⟩)
  have hh := h
  obtain ⟨hl, he, s, k, hs, hk, el, rfl, rfl, rfl⟩ := hh
  subst e2
  refine s_settle hN hW hST hD (fun rc ps ws scs tr rks ord ll lo lp lb h1 h2 => ?_)
  refine s_slotOf ?_
  rw [show s * 3 + k = l by omega]
  exact s_entryValue hN hW hST.2.1 hST.2.2.2.2.2.1 hST.2.2.2.2.2.2.1 hST.2.2.2.2.2.2.2.1 h1.1 hl he hw (hok l e w h hw rfl (nI 0) rc ps ws scs tr rks ord ll lo lp lb (Or.inr ⟨rfl, h1, h2⟩))
theorem s_L_ranked {N : Nat} {M : Nat → Nat} {kc x1 : Int32} {st rc ll : Int32} {ps ws scs tr rks ord lo lp lb : Nat → Int32} {keys ranges : Nat → Int64} {sizes qs lengths names weights ties : Nat → Int32} {Q : Int32 → Int32 → Int32 → (Nat → Int32) → (Nat → Int32) → (Nat → Int32) → (Nat → Int32) → (Nat → Int32) → (Nat → Int32) → Int32 → (Nat → Int32) → (Nat → Int32) → (Nat → Int32) → Prop} (hN : 1000 < N) (hW : WF M) (hST : ST M (nI (M 0)) keys sizes qs lengths ranges names weights ties) (hD : OKD M st rc ps ws scs tr rks ord ll lo lp lb)
    (hno : (∀ p, p < 2147483648 → x1 ≠ nI p) → Q (-90100) st rc ps ws scs tr rks ord ll lo lp lb)
    (hok : ∀ p, p < 2147483648 → x1 = nI p → ∀ st rc ps ws scs tr rks ord ll lo lp lb, OKD M st rc ps ws scs tr rks ord ll lo lp lb → Q (if p < (rkM M 0 0).1 then nI ((rkM M 0 0).2 p) else nM) st rc ps ws scs tr rks ord ll lo lp lb) : p_L_ranked N kc st rc (nI (M 0)) lengths names keys ranges ps weights ws qs scs ties sizes tr rks ord ll lo lp lb x1 Q := by
  have h16 := hW.1
  unfold p_L_ranked p_X5_ranked
  simp (disch := omega) only [zl, nS]
  refine br_nn (fun p hp e => ?_) (fun e _ => hno e)
  subst e
  refine s_settle hN hW hST hD (fun rc ps ws scs tr rks ord ll lo lp lb h1 h2 => ?_)
  have r1 := (rkM_lt M 0 0).1
  have d5 := h1.2.2.2.2.1
  have d6 := h1.2.2.2.2.2.1
  have hh := hok p hp rfl (nI 0) rc ps ws scs tr rks ord ll lo lp lb (Or.inr ⟨rfl, h1, h2⟩)
  rw [d5] at hh ⊢
  exact s_variantAt2 (by omega) hp d6 hh
theorem s_L_listed {N : Nat} {M : Nat → Nat} {kc x1 : Int32} {st rc ll : Int32} {ps ws scs tr rks ord lo lp lb : Nat → Int32} {keys ranges : Nat → Int64} {sizes qs lengths names weights ties : Nat → Int32} {Q : Int32 → Int32 → Int32 → (Nat → Int32) → (Nat → Int32) → (Nat → Int32) → (Nat → Int32) → (Nat → Int32) → (Nat → Int32) → Int32 → (Nat → Int32) → (Nat → Int32) → (Nat → Int32) → Prop} (hN : 1000 < N) (hW : WF M) (hST : ST M (nI (M 0)) keys sizes qs lengths ranges names weights ties) (hD : OKD M st rc ps ws scs tr rks ord ll lo lp lb)
    (hno : (∀ p, p < 2147483648 → x1 ≠ nI p) → Q (-90100) st rc ps ws scs tr rks ord ll lo lp lb)
    (hok : ∀ p, p < 2147483648 → x1 = nI p → ∀ st rc ps ws scs tr rks ord ll lo lp lb, OKD M st rc ps ws scs tr rks ord ll lo lp lb → Q (if p < M 0 then nI (roM M p) else nM) st rc ps ws scs tr rks ord ll lo lp lb) : p_L_listed N kc st rc (nI (M 0)) lengths names keys ranges ps weights ws qs scs ties sizes tr rks ord ll lo lp lb x1 Q := by
  have h16 := hW.1
  unfold p_L_listed p_X5_listed
  simp (disch := omega) only [zl, nS]
  refine br_nn (fun p hp e => ?_) (fun e _ => hno e)
  subst e
  refine s_settle hN hW hST hD (fun rc ps ws scs tr rks ord ll lo lp lb h1 h2 => ?_)
  exact s_variantAt0 h16 hp h2.2.1 (hok p hp rfl (nI 0) rc ps ws scs tr rks ord ll lo lp lb (Or.inr ⟨rfl, h1, h2⟩))
theorem s_L_listingByte {N : Nat} {M : Nat → Nat} {kc x1 : Int32} {st rc ll : Int32} {ps ws scs tr rks ord lo lp lb : Nat → Int32} {keys ranges : Nat → Int64} {sizes qs lengths names weights ties : Nat → Int32} {Q : Int32 → Int32 → Int32 → (Nat → Int32) → (Nat → Int32) → (Nat → Int32) → (Nat → Int32) → (Nat → Int32) → (Nat → Int32) → Int32 → (Nat → Int32) → (Nat → Int32) → (Nat → Int32) → Prop} (hN : 1000 < N) (hW : WF M) (hST : ST M (nI (M 0)) keys sizes qs lengths ranges names weights ties) (hD : OKD M st rc ps ws scs tr rks ord ll lo lp lb)
    (hno : (∀ p, p < 2147483648 → x1 ≠ nI p) → Q (-90100) st rc ps ws scs tr rks ord ll lo lp lb)
    (hok : ∀ p, p < 2147483648 → x1 = nI p → ∀ st rc ps ws scs tr rks ord ll lo lp lb, OKD M st rc ps ws scs tr rks ord ll lo lp lb → Q (if p < (lB M (M 0)).length then nI (gB (lB M (M 0)) p) else nM) st rc ps ws scs tr rks ord ll lo lp lb) : p_L_listingByte N kc st rc (nI (M 0)) lengths names keys ranges ps weights ws qs scs ties sizes tr rks ord ll lo lp lb x1 Q := by
  have h16 := hW.1
  unfold p_L_listingByte p_X5_listingByte
  simp (disch := omega) only [zl, nS]
  refine br_nn (fun p hp e => ?_) (fun e _ => hno e)
  subst e
  refine s_settle hN hW hST hD (fun rc ps ws scs tr rks ord ll lo lp lb h1 h2 => ?_)
  have hl := lB_len M (M 0)
  have hh := hok p hp rfl (nI 0) rc ps ws scs tr rks ord ll lo lp lb (Or.inr ⟨rfl, h1, h2⟩)
  rw [h2.1] at hh ⊢
  exact s_byteAt0 (by omega) hp h2.2.2.2 hh
theorem s_L_whole {N : Nat} {M : Nat → Nat} {kc x1 : Int32} {st rc ll : Int32} {ps ws scs tr rks ord lo lp lb : Nat → Int32} {keys ranges : Nat → Int64} {sizes qs lengths names weights ties : Nat → Int32} {Q : Int32 → Int32 → Int32 → (Nat → Int32) → (Nat → Int32) → (Nat → Int32) → (Nat → Int32) → (Nat → Int32) → (Nat → Int32) → Int32 → (Nat → Int32) → (Nat → Int32) → (Nat → Int32) → Prop} (hN : 1000 < N) (hW : WF M) (hST : ST M (nI (M 0)) keys sizes qs lengths ranges names weights ties) (hD : OKD M st rc ps ws scs tr rks ord ll lo lp lb) {tn : Nat}
    (hno : (∀ w, w ≤ 10 → x1 ≠ nI w) → Q (-90100) st rc ps ws scs tr rks ord ll lo lp lb)
    (hok : ∀ w, w ≤ 10 → x1 = nI w → ∀ st rc ps ws scs tr rks ord ll lo lp lb, OKD M st rc ps ws scs tr rks ord ll lo lp lb → Q (wV M tn w) st rc ps ws scs tr rks ord ll lo lp lb) : p_L_whole N kc st rc (nI (M 0)) lengths names keys ranges ps weights ws qs scs ties sizes tr rks ord ll lo lp lb (nI tn) x1 Q := by
  have h16 := hW.1
  unfold p_L_whole p_X5_whole
  simp (disch := omega) only [zl, nS]
  refine br_rng (hi := 10) (by decide) (fun w hw e => ?_) (fun e => ⟨fun _ => hno e, fun _ => hno e⟩)
  subst e
  refine s_settle hN hW hST hD (fun rc ps ws scs tr rks ord ll lo lp lb h1 h2 => ?_)
  exact s_wholeValue hN hW hST.2.2.2.2.1 hST.2.2.2.2.2.2.2.2 h1 h2 hw (hok w hw rfl (nI 0) rc ps ws scs tr rks ord ll lo lp lb (Or.inr ⟨rfl, h1, h2⟩))
theorem s_L_servedWithout {N : Nat} {M : Nat → Nat} {kc x1 : Int32} {st rc ll : Int32} {ps ws scs tr rks ord lo lp lb : Nat → Int32} {keys ranges : Nat → Int64} {sizes qs lengths names weights ties : Nat → Int32} {Q : Int32 → Int32 → Int32 → (Nat → Int32) → (Nat → Int32) → (Nat → Int32) → (Nat → Int32) → (Nat → Int32) → (Nat → Int32) → Int32 → (Nat → Int32) → (Nat → Int32) → (Nat → Int32) → Prop} (hN : 1000 < N) (hW : WF M) (hST : ST M (nI (M 0)) keys sizes qs lengths ranges names weights ties) (hD : OKD M st rc ps ws scs tr rks ord ll lo lp lb)
    (hno : (∀ v, v < M 0 → x1 ≠ nI v) → Q (-90300) st rc ps ws scs tr rks ord ll lo lp lb)
    (hok : ∀ v, v < M 0 → x1 = nI v → ∀ st rc ps ws scs tr rks ord ll lo lp lb, OKD M st rc ps ws scs tr rks ord ll lo lp lb → Q (nP (fiM M 0 (v + 1))) st rc ps ws scs tr rks ord ll lo lp lb) : p_L_servedWithout N kc st (nI (M 0)) rc lengths names keys ranges ps weights ws qs scs ties sizes tr rks ord ll lo lp lb x1 Q := by
  have h16 := hW.1
  unfold p_L_servedWithout p_X5_servedWithout
  simp (disch := omega) only [zl, nS]
  refine s_hasVariant h16 (fun v hv e => ⟨fun _ => ?_, fun z => absurd z (by decide)⟩) (fun e => ⟨fun z => absurd rfl z, fun _ _ => hno e⟩)
  subst e
  refine s_settle hN hW hST hD (fun rc ps ws scs tr rks ord ll lo lp lb h1 h2 => ?_)
  have hh := hok v hv rfl (nI 0) rc ps ws scs tr rks ord ll lo lp lb (Or.inr ⟨rfl, h1, h2⟩)
  have r1 := (rkM_lt M 0 0).1
  have r2 := (rkM_lt M 0 0).2
  have ew : fiM M 0 (v + 1) = if fiM M 0 0 = v + 1 then (if 1 < (rkM M 0 0).1 then (rkM M 0 0).2 1 + 1 else 0) else fiM M 0 0 := by
    have e1 : fiM M 0 (v + 1) = fi (aM M 0) (fun u => inM M 0 0 u ∧ u + 1 ≠ v + 1) (M 0) := by
      have : rk (aM M 0) (inM M 0 (v + 1)) (M 0) = rk (aM M 0) (fun u => inM M 0 0 u ∧ u + 1 ≠ v + 1) (M 0) := rk_congS (M 0) (fun u _ => ⟨fun a => ⟨⟨a.1, by omega⟩, a.2⟩, fun a => ⟨a.1.1, a.2⟩⟩)
      unfold fiM fi
      rw [this]
    rw [e1]
    exact fi_wo (aM_TO M 0)
  rw [ew] at hh
  have hle : fiM M 0 0 ≤ M 0 := fi_le _ _ _
  rw [h1.2.2.2.2.1] at hh ⊢
  refine s_variantAt2 (by omega) (by decide) h1.2.2.2.2.2.1 ?_
  rw [fiM_at]
  by_cases q : fiM M 0 0 = v + 1
  · rw [if_pos q] at hh
    rw [q, nP_s]
    refine ⟨fun z => absurd rfl z, fun _ => s_variantAt2 (by omega) (by decide) h1.2.2.2.2.2.1 ?_⟩
    by_cases r : 1 < (rkM M 0 0).1
    · rw [if_pos r, nP_s] at hh
      rw [if_pos r]
      exact hh
    · rw [if_neg r] at hh
      rw [if_neg r]
      exact hh
  · rw [if_neg q] at hh
    have e : ¬ nP (fiM M 0 0) = nI v := by
      intro z
      by_cases q0 : fiM M 0 0 = 0
      · rw [q0, nP_0, nSm.2.2.1 v (by omega)] at z; exact z
      · rw [nP_p q0, show (nI (fiM M 0 0 - 1) = nI v) = (fiM M 0 0 - 1 = v) from nS.2.2.2.2.2.2.2.2.2.1 _ v (by omega) (by omega)] at z
        omega
    exact ⟨fun _ => hh, fun z => absurd z e⟩
theorem s_L_servedFor {N : Nat} {M : Nat → Nat} {kc st x1 : Int32} {rc : Int32} {ps ws scs tr rks ord : Nat → Int32} {keys ranges : Nat → Int64} {sizes qs lengths names weights ties : Nat → Int32} {Q : Int32 → Int32 → (Nat → Int32) → (Nat → Int32) → (Nat → Int32) → (Nat → Int32) → (Nat → Int32) → (Nat → Int32) → Prop} (hN : 1000 < N) (hW : WF M) (hST : ST M (nI (M 0)) keys sizes qs lengths ranges names weights ties)
    (hno : (∀ s, s ≤ 1 → x1 ≠ nI s) → Q (-90300) rc ps ws scs tr rks ord) (hok : ∀ s, s ≤ 1 → x1 = nI s → ∀ rc ps ws scs tr rks ord, Q (nP (fiM M (2 - s) 0)) rc ps ws scs tr rks ord) : p_L_servedFor N kc st rc (nI (M 0)) lengths names keys ranges ps weights ws qs scs ties sizes tr rks ord x1 Q := by
  unfold p_L_servedFor p_X5_servedFor
  simp (disch := omega) only [zl, nS]
  rcases i32_c x1 1 (by decide) with ⟨s, hs, rfl⟩ | e
  · simp (disch := omega) only [nS]
    refine ⟨fun z => absurd z (by omega), fun _ => ⟨fun _ => ?_, fun z => absurd (by omega) z⟩⟩
    have e1 : nI (1 - s) = nP (2 - s) := by rw [show 2 - s = (1 - s) + 1 by omega, nP_s]
    rw [e1]
    exact s_servedWithoutSide hN hW hST (by omega) (fun rc ps ws scs tr rks ord => hok s hs rfl rc ps ws scs tr rks ord)
  · refine ⟨fun _ _ => hno e, fun z => ⟨fun z2 => ?_, fun _ _ => hno e⟩⟩
    rcases i32 x1 with q | ⟨v, hv, rfl⟩
    · exact absurd (by rw [(i32_n q).1]; trivial) z
    · simp (disch := omega) only [nS] at z2
      exact absurd rfl (e v (by omega))
theorem s_L_leastWeight {N : Nat} {M : Nat → Nat} {kc x1 x2 x3 x4 : Int32} {st rc ll : Int32} {ps ws scs tr rks ord lo lp lb : Nat → Int32} {keys ranges : Nat → Int64} {sizes qs lengths names weights ties : Nat → Int32} {Q : Int32 → Int32 → Int32 → (Nat → Int32) → (Nat → Int32) → (Nat → Int32) → (Nat → Int32) → (Nat → Int32) → (Nat → Int32) → Int32 → (Nat → Int32) → (Nat → Int32) → (Nat → Int32) → Prop} (hN : 2000 < N) (hW : WF M) (hST : ST M (nI (M 0)) keys sizes qs lengths ranges names weights ties) (hD : OKD M st rc ps ws scs tr rks ord ll lo lp lb)
    (hno : (∀ l e, ¬ isE M x1 x2 x3 l e) → Q (-90300) st rc ps ws scs tr rks ord ll lo lp lb) (hno2 : ∀ l e, isE M x1 x2 x3 l e → (∀ v, v < M 0 → x4 ≠ nI v) → Q (-90300) st rc ps ws scs tr rks ord ll lo lp lb)
    (hok : ∀ l e v, isE M x1 x2 x3 l e → v < M 0 → x4 = nI v → ∀ st rc ps ws scs tr rks ord ll lo lp lb, OKD M st rc ps ws scs tr rks ord ll lo lp lb → Q (nP (lsM (PS M (ec l e + 3) v))) st rc ps ws scs tr rks ord ll lo lp lb) : p_L_leastWeight N kc st (nI (M 0)) lengths rc names keys ranges ps weights ws qs scs ties sizes tr rks ord ll lo lp lb x1 x2 x3 x4 Q := by
  have h16 := hW.1
  unfold p_L_leastWeight p_X5_leastWeight
  simp (disch := omega) only [zl, nS]
  refine s_hasEntry hST.2.2.2.2.1 hW (fun l e h => ⟨fun z => absurd z (by decide), fun _ => ?_⟩) (fun h => ⟨fun _ _ => hno h, fun z => absurd rfl z⟩)
  refine s_hasVariant h16 (fun v hv e2 => ⟨fun _ => ?_, fun z => absurd z (by decide)⟩) (fun e2 => ⟨fun z => absurd rfl z, fun _ _ => hno2 l e h e2⟩)
  have hh := h
  obtain ⟨hl, he, s, k, hs, hk, el, rfl, rfl, rfl⟩ := hh
  subst e2
  refine s_settle (by omega) hW hST hD (fun rc ps ws scs tr rks ord ll lo lp lb h1 h2 => ?_)
  refine s_slotOf ?_
  rw [show s * 3 + k = l by omega]
  exact s_leastLeadingWeight hN hW hST.2.2.2.2.2.2.2.2 hST.2.2.2.1 h1.1 h1.2.1 h1.2.2.1 h1.2.2.2.1 hl he hv (hok l e v h hv rfl (nI 0) rc ps ws scs tr rks ord ll lo lp lb (Or.inr ⟨rfl, h1, h2⟩))
theorem s_L_leastQuality {N : Nat} {M : Nat → Nat} {kc x1 : Int32} {st rc ll : Int32} {ps ws scs tr rks ord lo lp lb : Nat → Int32} {keys ranges : Nat → Int64} {sizes qs lengths names weights ties : Nat → Int32} {Q : Int32 → Int32 → Int32 → (Nat → Int32) → (Nat → Int32) → (Nat → Int32) → (Nat → Int32) → (Nat → Int32) → (Nat → Int32) → Int32 → (Nat → Int32) → (Nat → Int32) → (Nat → Int32) → Prop} (hN : 2000 < N) (hW : WF M) (hST : ST M (nI (M 0)) keys sizes qs lengths ranges names weights ties) (hD : OKD M st rc ps ws scs tr rks ord ll lo lp lb)
    (hno : (∀ v, v < M 0 → x1 ≠ nI v) → Q (-90300) st rc ps ws scs tr rks ord ll lo lp lb)
    (hok : ∀ v, v < M 0 → x1 = nI v → ∀ st rc ps ws scs tr rks ord ll lo lp lb, OKD M st rc ps ws scs tr rks ord ll lo lp lb → Q (nP (lsM (PS M (10 + 8 * v + 7) v))) st rc ps ws scs tr rks ord ll lo lp lb) : p_L_leastQuality N kc st (nI (M 0)) rc lengths names keys ranges ps weights ws qs scs ties sizes tr rks ord ll lo lp lb x1 Q := by
  have h16 := hW.1
  unfold p_L_leastQuality p_X5_leastQuality
  simp (disch := omega) only [zl, nS]
  refine s_hasVariant h16 (fun v hv e2 => ⟨fun _ => ?_, fun z => absurd z (by decide)⟩) (fun e2 => ⟨fun z => absurd rfl z, fun _ _ => hno e2⟩)
  subst e2
  refine s_settle (by omega) hW hST hD (fun rc ps ws scs tr rks ord ll lo lp lb h1 h2 => ?_)
  exact s_leastLeadingQuality (by omega) hW hST.2.2.2.2.2.2.2.2 (h1.2.1 v hv) h1.2.2.1 h1.2.2.2.1 hv (hok v hv rfl (nI 0) rc ps ws scs tr rks ord ll lo lp lb (Or.inr ⟨rfl, h1, h2⟩))

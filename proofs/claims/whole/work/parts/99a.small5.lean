theorem x_smallOK {c m k f u : Nat} {h : MHp} {A : AS} (C : CR c h A) (W : WA A) (hk : k < aN A 1) (hf : f < bF (aB A)) (hu : u ≤ bT (aB A) f) (w : Int32) (hw : 0 ≤ w ∧ w ≤ 3) (hp : pI1 (aP A k) = none) : XS c m h A (mX11_small h c (Int32.ofNat k) (Int32.ofNat f) (Int32.ofNat u) w) (fun h1 => mX16_small h1 m (Int32.ofNat k) (Int32.ofNat f) (Int32.ofNat u) w) := by
  obtain ⟨b, G⟩ := C.rg W
  have L := C.l
  have h8 := W.2.2.1
  have e1 := p_hasTable1 C W hk
  have e2 := p_hasValue1 G hf hu
  obtain ⟨p1, p2, p3, -, -⟩ := C.plan W hk
  have bd := bad_n (k := k) (n := 9) (by omega) (by omega)
  have clk : (Int32.ofNat k).toNatClampNeg = k := cl_of (by omega)
  have x4 : hI h (c + 120 + 7 * k) 4 = -1 := by rw [p3.2.1, hp]; rfl
  obtain ⟨h2, E, S⟩ := c_smallOK C W hk hf hu w
  refine ⟨smV A k f u w, tb A 0, W, ⟨h2, ?_, (C.tb (by decide)).sc (W.tb (t := 0)) S, (Oc.I0 15 0).tr S.oc⟩, fun h1 R => ?_⟩
  · rw [mX11_small, b_rcv, if_pos (lK0 L), e1, o_bind, if_neg n10, b_gR, if_pos (lK0 L), lR0_2 L, b_gR, if_pos (lK56 L), G.2.1, b_rcv, if_pos G.ib.1, e2, o_bind, if_neg n10, p_within, if_pos hw, o_bind, if_neg n10, b_gR, if_pos (lK0 L), lR0_3 L, b_gAR, if_pos (lK119 L), lN119 L, if_neg bd, clk, p2, b_gI, if_pos p1.1, x4, if_pos (show (-1 : Int32) = -1 from rfl), E]
  · obtain ⟨h3, e3, S3⟩ := q_smallOK R W hk hf hu w hw hp
    exact ⟨rtb m h3 0, e3, (R.sc S3).tb (by decide), S3.om.tr Om.tb⟩

/-! small, with its refusals -/
theorem sml_b {c : Nat} {h : MHp} (L : CL c h) (t f v w : Int32) (x : Int32) (hx : ¬ x = 0) : mX11_small_b56 h c t f v w (some c) x = some (-1, sI h c 15 x) := by
  have K : hK (sI h c 15 x) c = 12 := lK0 L
  rw [mX11_small_b56, b_pI, if_pos (lK0 L), b_gI, if_pos K, e_Iself, if_neg hx]
theorem q_sml48 {m : Nat} {h : MHp} {A : AS} (R : RR m h A) : mX16_small_b48 (sI h m 0 0) m = some (-1, rtb m (sI h m 0 0) 1) := by
  have M := (R.th 0).1.1
  rw [mX16_small_b48, b_rcv, if_pos (qK0 M), q_refused M 1, o_bind]
theorem x_small {c m : Nat} {h : MHp} {A : AS} (C : CR c h A) (W : WA A) (t f v w : Int32) : XS c m h A (mX11_small h c t f v w) (fun h1 => mX16_small h1 m t f v w) := by
  obtain ⟨b, G⟩ := C.rg W
  have L := C.l
  have h8 := W.2.2.1
  have w6 := W.1.1
  have g1 := G.2.1
  have i1 := G.ib.1
  have no1 : mX11_small h c t f v w = some (-1, sI h c 15 1) → (∀ h1 : MHp, RR m h1 A → mX16_small h1 m t f v w = mX16_small_b48 (sI h1 m 0 0) m) → XS c m h A (mX11_small h c t f v w) (fun h1 => mX16_small h1 m t f v w) := fun e1 e2 => XS.no (v := -1) 1 (by decide) C W (fun _ _ => Or.inr trivial) e1 (fun h1 R => ⟨sI h1 m 0 0, Rs.I 0 0 (by decide), by rw [e2 h1 R, q_sml48 R]⟩)
  rcases rng t (aN A 1) with ⟨k, hk, rfl⟩ | hno
  · have e1 := p_hasTable1 C W hk
    by_cases hv : isV A f v
    · obtain ⟨q, u, hq, hu, rfl, rfl⟩ := hv
      have e2 := p_hasValue1 G hq hu
      have wt := W.1.2.2.1 q hq
      have base : ∀ h1 : MHp, RR m h1 A → mX16_small h1 m (Int32.ofNat k) (Int32.ofNat q) (Int32.ofNat u) w = (mX16_in (sI h1 m 0 0) w 0 3).bind fun r14 => (if r14 = 0 then mX16_small_b48 (sI h1 m 0 0) m else (gR 17 6 (sI h1 m 0 0) (some m)).bind fun x15 => (gAR 26 (sI h1 m 0 0) x15 (Int32.ofNat k)).bind fun x16 => (gI 15 1 (sI h1 m 0 0) x16).bind fun x17 => (if x17 = (-1) then (rcv 17 (sI h1 m 0 0) (some m)).bind fun b19 => (mX16_thousandths (sI h1 m 0 0) b19 x16 (Int32.ofNat q) (Int32.ofNat u) 1).bind fun r18 => (rcv 17 r18.2 (some m)).bind fun b21 => (mX16_thousandths r18.2 b21 x16 (Int32.ofNat q) (Int32.ofNat u) 0).bind fun r20 => (gI 17 41 r20.2 (some m)).bind fun x22 => (gI 17 41 r20.2 (some m)).bind fun x23 => (gI 17 39 r20.2 (some m)).bind fun x24 => (nz (x23 + x24)).bind fun _ => (if w = 0 then mX16_small_b171 r20.2 (some m) (((r20.1 * ((1000 * x22) / (x23 + x24))) + (r18.1 * (1000 - ((1000 * x22) / (x23 + x24))))) / 1000) else (if w = 1 then mX16_small_b171 r20.2 (some m) r20.1 else (if w = 2 then mX16_small_b171 r20.2 (some m) r18.1 else mX16_small_b171 r20.2 (some m) ((1000 * x22) / (x23 + x24))))) else (rcv 17 (sI h1 m 0 0) (some m)).bind fun b29 => (mX16_refused (sI h1 m 0 0) b29 5).bind fun r28 => some (r28.1, r28.2))) := fun h1 R => by
        have R2 := R.th 0
        have M := R2.1.1
        have K := qK0 M
        have f0 := q_isTable1 R2 W hk
        have f1 := q_isField1 R2 W hq
        obtain ⟨b', Q⟩ := R2.rq W (by omega)
        have B := Q.2.2.1.1
        have t1 := q_top Q hq
        have e3 := in_v (h := sI h1 m 0 0) (show bT (aB A) q ≤ 100 by omega) hu
        have bf := bad_n (k := q) (n := 6) (by omega) (by omega)
        have clf : (Int32.ofNat q).toNatClampNeg = q := cl_of (by omega)
        rw [mX16_small, b_pI, if_pos (qK0 R.1.1), b_rcv, if_pos K, f0, o_bind, if_neg n10, b_rcv, if_pos K, f1, o_bind, if_neg n10, b_gR, if_pos K, Q.2.1, b_gR, if_pos B.1, B.2.2.1, b_gAI, if_pos B.2.2.2.2.2.2.1, B.2.2.2.2.2.2.2.2.2.2.1, if_neg bf, clf, t1, e3, o_bind, if_neg n10]
      by_cases hw : 0 ≤ w ∧ w ≤ 3
      · cases hp : pI1 (aP A k) with
        | none => exact x_smallOK C W hk hq hu w hw hp
        | some f1 =>
          obtain ⟨p1, p2, p3, -, p5⟩ := C.plan W hk
          have hf1 := p5.2.1 f1 hp
          obtain ⟨o1, o2⟩ := oi_m hp (by omega)
          have bd := bad_n (k := k) (n := 9) (by omega) (by omega)
          have clk : (Int32.ofNat k).toNatClampNeg = k := cl_of (by omega)
          have x4 : ¬ hI h (c + 120 + 7 * k) 4 = -1 := by rw [p3.2.1]; exact o2
          refine XS.no (v := -1) 5 (by decide) C W (fun _ _ => Or.inr trivial) ?_ (fun h1 R => ⟨sI h1 m 0 0, Rs.I 0 0 (by decide), ?_⟩)
          · rw [mX11_small, b_rcv, if_pos (lK0 L), e1, o_bind, if_neg n10, b_gR, if_pos (lK0 L), lR0_2 L, b_gR, if_pos (lK56 L), G.2.1, b_rcv, if_pos G.ib.1, e2, o_bind, if_neg n10, p_within, if_pos hw, o_bind, if_neg n10, b_gR, if_pos (lK0 L), lR0_3 L, b_gAR, if_pos (lK119 L), lN119 L, if_neg bd, clk, p2, b_gI, if_pos p1.1, if_neg x4, sml_b L _ _ _ _ 5 n50]
          · have R2 := R.th 0
            have M := R2.1.1
            have K := qK0 M
            obtain ⟨p, q1, q2, -, -⟩ := R2.2.2.2.2.2 k hk
            have bk := bad_n (k := k) (n := 8) (by omega) (by omega)
            have x17 : ¬ hI (sI h1 m 0 0) p 1 = -1 := by rw [q2.2.2.1]; exact o2
            show mX16_small h1 m (Int32.ofNat k) (Int32.ofNat q) (Int32.ofNat u) w = _
            rw [base h1 R, q_in, if_pos hw, o_bind, if_neg n10, b_gR, if_pos K, qR6 M, b_gAR, if_pos (qK1 M), qN1 M, if_neg bk, clk, q1, b_gI, if_pos q2.1.1, if_neg x17, b_rcv, if_pos K, q_refused M 5, o_bind]
      · refine no1 ?_ (fun h1 R => ?_)
        · rw [mX11_small, b_rcv, if_pos (lK0 L), e1, o_bind, if_neg n10, b_gR, if_pos (lK0 L), lR0_2 L, b_gR, if_pos (lK56 L), G.2.1, b_rcv, if_pos G.ib.1, e2, o_bind, if_neg n10, p_within, if_neg hw, o_bind, if_pos rfl, mX11_small_b34, sml_b L _ _ _ _ 1 n10]
        · rw [base h1 R, q_in, if_neg hw, o_bind, if_pos rfl]
    · have e2 := p_hasValue0 G hv
      refine no1 ?_ (fun h1 R => ?_)
      · rw [mX11_small, b_rcv, if_pos (lK0 L), e1, o_bind, if_neg n10, b_gR, if_pos (lK0 L), lR0_2 L, b_gR, if_pos (lK56 L), G.2.1, b_rcv, if_pos G.ib.1, e2, o_bind, if_pos rfl, mX11_small_b34, sml_b L _ _ _ _ 1 n10]
      · have R2 := R.th 0
        have M := R2.1.1
        have K := qK0 M
        have f0 := q_isTable1 R2 W hk
        rcases rng f (bF (aB A)) with ⟨q, hq, rfl⟩ | hno
        · have f1 := q_isField1 R2 W hq
          obtain ⟨b', Q⟩ := R2.rq W (by omega)
          have B := Q.2.2.1.1
          have t1 := q_top Q hq
          have wt := W.1.2.2.1 q hq
          have e3 := in_vn (h := sI h1 m 0 0) (v := v) (show bT (aB A) q ≤ 100 by omega) (fun u hu e => hv ⟨q, u, hq, hu, rfl, e⟩)
          have bf := bad_n (k := q) (n := 6) (by omega) (by omega)
          have clf : (Int32.ofNat q).toNatClampNeg = q := cl_of (by omega)
          rw [mX16_small, b_pI, if_pos (qK0 R.1.1), b_rcv, if_pos K, f0, o_bind, if_neg n10, b_rcv, if_pos K, f1, o_bind, if_neg n10, b_gR, if_pos K, Q.2.1, b_gR, if_pos B.1, B.2.2.1, b_gAI, if_pos B.2.2.2.2.2.2.1, B.2.2.2.2.2.2.2.2.2.2.1, if_neg bf, clf, t1, e3, o_bind, if_pos rfl]
        · have f1 := q_isField0 R2 W hno
          rw [mX16_small, b_pI, if_pos (qK0 R.1.1), b_rcv, if_pos K, f0, o_bind, if_neg n10, b_rcv, if_pos K, f1, o_bind, if_pos rfl]
  · have e1 := p_hasTable0 C W hno
    refine no1 ?_ (fun h1 R => ?_)
    · rw [mX11_small, b_rcv, if_pos (lK0 L), e1, o_bind, if_pos rfl, mX11_small_b34, sml_b L _ _ _ _ 1 n10]
    · have R2 := R.th 0
      have K := qK0 R2.1.1
      have f0 := q_isTable0 R2 W hno
      rw [mX16_small, b_pI, if_pos (qK0 R.1.1), b_rcv, if_pos K, f0, o_bind, if_pos rfl]

/-! value, led -/
theorem x_value {c m : Nat} {h : MHp} {A : AS} (C : CR c h A) (W : WA A) (a f d fl : Int32) : XS0 m A (mX11_value h c a f d fl) (fun h1 => mX16_value h1 m a f d fl) := by
  obtain ⟨b, G⟩ := C.rg W
  have L := C.l
  have I := G.ib
  obtain ⟨-, g1, g2, g3, g4, g5, g6⟩ := id G
  have e1 := p_isDay L d
  rw [C.td] at e1
  have i1 := I.1
  have w6 := W.1.1
  have h110 : hAI h (c + 110) = aA A 1 := C.2.2.1.2.2.2.2.2.1
  by_cases hd : 0 ≤ d ∧ d ≤ aS A 3
  · rw [if_pos hd] at e1
    have start : mX11_value h c a f d fl = mX9_valueOn h (c + 56) a f d fl := by
      rw [mX11_value, b_gR, if_pos (lK0 L), lR0_2 L, b_rcv, if_pos (lK56 L), e1, o_bind, if_neg n10, b_gR, if_pos (lK0 L), lR0_2 L, b_rcv, if_pos (lK56 L)]
      cases mX9_valueOn h (c + 56) a f d fl with
      | none => rfl
      | some x => rw [o_bind]
    rcases rng a (aN A 2) with ⟨r, hr, rfl⟩ | hno
    · have e2 := p_has1 L g5 g6 hr
      rcases rng f (bF (aB A)) with ⟨q, hq, rfl⟩ | hno
      · have e3 := p_hasField I g3.1 w6 hq
        have u2 := (W.2.2.2.2.2.2.2.2.2.1 r hr).2.1
        have n60r := W.2.2.2.1
        rcases rng fl 5 with ⟨fil, hfil, rfl⟩ | hno
        · have e4 := p_valueOn L g1 I g5 g6 g3.1 w6 hr hfil d (show q < 6 by omega)
          have e7 : ∀ h : MHp, mX16_in h (Int32.ofNat fil) 0 4 = some 1 := fun h => in_v (n := 4) (by omega) (by omega)
          by_cases hb : aA A 1 r ≤ d
          · have e5 := lV_vX C W hr hq hfil hb
            rw [e5] at e4
            refine ⟨vX A r d fil q, by rw [start, e4], fun h1 R => ⟨_, ?_, R.th 0, Om.th 0⟩⟩
            have R2 := R.th 0
            have M := R2.1.1
            obtain ⟨b', Q⟩ := R2.rq W (W.pos hr)
            have f1 := q_isRow1 M Q.2.2.2.2.1 n60r hr
            have f2 := q_isField1 R2 W hq
            have f3 := q_valueOf (d := d) Q.1 n60r hr (show q < 6 by omega) hfil
            have s7 := Q.1.2.2.2.2.1
            have s3 := R2.2.1.2.2.2.2.2.2.2.1
            have f4 : mX16_in (sI h1 m 0 0) d (aA A 1 r) (aS A 3) = some 1 := by rw [q_in, if_pos ⟨hb, hd.2⟩]
            simp (maxSteps := 3000000) (disch := omega) only [mX16_value, qK0 R.1.1, qK0 M, f1, n10, f2, qR23 M, qK7 M, qN7 M, cl_of, s7, s3, f4, e7, f3, ↓o_bind, o_map, ↓b_rcv, ↓b_gI, ↓b_gL, ↓b_gR, ↓b_gN, ↓b_pI, ↓b_pL, ↓b_pR, ↓b_gAI, ↓b_gAL, ↓b_gAR, ↓b_pAI, ↓b_pAL, bad_of, bad_l, Bool.false_eq_true, ↓reduceIte, Int32.reduceLT, Int32.reduceLE, Int32.reduceToNatClampNeg, Int32.reduceOfNat, Int32.reduceAdd, Int32.reduceSub, Int32.reduceMul, Nat.reduceAdd, Nat.reduceMul, Nat.reduceEqDiff]
            rfl
          · have e5 : lV c h (bF (aB A)) r d fil q = -2 := by simp only [lV, h110, hb, and_false, if_false]
            rw [e5] at e4
            refine ⟨-2, by rw [start, e4], fun h1 R => ⟨_, ?_, R.th 0, Om.th 0⟩⟩
            have R2 := R.th 0
            have M := R2.1.1
            obtain ⟨b', Q⟩ := R2.rq W (W.pos hr)
            have f1 := q_isRow1 M Q.2.2.2.2.1 n60r hr
            have f2 := q_isField1 R2 W hq
            have s7 := Q.1.2.2.2.2.1
            have s3 := R2.2.1.2.2.2.2.2.2.2.1
            have f4 : mX16_in (sI h1 m 0 0) d (aA A 1 r) (aS A 3) = some 0 := by rw [q_in, if_neg (fun hh => hb hh.1)]
            simp (maxSteps := 3000000) (disch := omega) only [mX16_value, qK0 R.1.1, qK0 M, f1, n10, f2, qR23 M, qK7 M, qN7 M, cl_of, s7, s3, f4, ↓o_bind, o_map, ↓b_rcv, ↓b_gI, ↓b_gL, ↓b_gR, ↓b_gN, ↓b_pI, ↓b_pL, ↓b_pR, ↓b_gAI, ↓b_gAL, ↓b_gAR, ↓b_pAI, ↓b_pAL, bad_of, bad_l, Bool.false_eq_true, ↓reduceIte, Int32.reduceLT, Int32.reduceLE, Int32.reduceToNatClampNeg, Int32.reduceOfNat, Int32.reduceAdd, Int32.reduceSub, Int32.reduceMul, Nat.reduceAdd, Nat.reduceMul, Nat.reduceEqDiff]
        · have hf : ¬ ((0 : Int32) ≤ fl ∧ fl ≤ 4) := by
            rintro ⟨h1, h2⟩
            obtain ⟨q, rfl, hq⟩ := ex_of (Int32.not_lt.mpr h1)
            rw [show (4 : Int32) = Int32.ofNat 4 from rfl, le_of (by omega) (by omega)] at h2
            exact hno q (by omega) rfl
          have e4 : mX11_isWithin h fl 0 4 = some 0 := by rw [p_within, if_neg hf]
          have e5 : mX9_valueOn h (c + 56) (Int32.ofNat r) (Int32.ofNat q) d fl = some (-2) := by
            rw [mX9_valueOn, b_rcv, if_pos (lK56 L), e2, o_bind, if_neg n10, b_gR, if_pos (lK56 L), g1, b_rcv, if_pos i1, e3, o_bind, if_neg n10, e4, o_bind, if_pos rfl]
          refine ⟨-2, by rw [start, e5], fun h1 R => ⟨_, ?_, R.th 0, Om.th 0⟩⟩
          have R2 := R.th 0
          have M := R2.1.1
          obtain ⟨b', Q⟩ := R2.rq W (W.pos hr)
          have f1 := q_isRow1 M Q.2.2.2.2.1 n60r hr
          have f2 := q_isField1 R2 W hq
          have s7 := Q.1.2.2.2.2.1
          have s3 := R2.2.1.2.2.2.2.2.2.2.1
          have e7 : mX16_in (sI h1 m 0 0) fl 0 4 = some 0 := by rw [q_in, if_neg hf]
          by_cases hb : aA A 1 r ≤ d
          · have f4 : mX16_in (sI h1 m 0 0) d (aA A 1 r) (aS A 3) = some 1 := by rw [q_in, if_pos ⟨hb, hd.2⟩]
            simp (maxSteps := 3000000) (disch := omega) only [mX16_value, qK0 R.1.1, qK0 M, f1, n10, f2, qR23 M, qK7 M, qN7 M, cl_of, s7, s3, f4, e7, ↓o_bind, o_map, ↓b_rcv, ↓b_gI, ↓b_gL, ↓b_gR, ↓b_gN, ↓b_pI, ↓b_pL, ↓b_pR, ↓b_gAI, ↓b_gAL, ↓b_gAR, ↓b_pAI, ↓b_pAL, bad_of, bad_l, Bool.false_eq_true, ↓reduceIte, Int32.reduceLT, Int32.reduceLE, Int32.reduceToNatClampNeg, Int32.reduceOfNat, Int32.reduceAdd, Int32.reduceSub, Int32.reduceMul, Nat.reduceAdd, Nat.reduceMul, Nat.reduceEqDiff]
          · have f4 : mX16_in (sI h1 m 0 0) d (aA A 1 r) (aS A 3) = some 0 := by rw [q_in, if_neg (fun hh => hb hh.1)]
            simp (maxSteps := 3000000) (disch := omega) only [mX16_value, qK0 R.1.1, qK0 M, f1, n10, f2, qR23 M, qK7 M, qN7 M, cl_of, s7, s3, f4, ↓o_bind, o_map, ↓b_rcv, ↓b_gI, ↓b_gL, ↓b_gR, ↓b_gN, ↓b_pI, ↓b_pL, ↓b_pR, ↓b_gAI, ↓b_gAL, ↓b_gAR, ↓b_pAI, ↓b_pAL, bad_of, bad_l, Bool.false_eq_true, ↓reduceIte, Int32.reduceLT, Int32.reduceLE, Int32.reduceToNatClampNeg, Int32.reduceOfNat, Int32.reduceAdd, Int32.reduceSub, Int32.reduceMul, Nat.reduceAdd, Nat.reduceMul, Nat.reduceEqDiff]
      · have e3 := p_hasField0 I g3.1 w6 hno
        have e5 : mX9_valueOn h (c + 56) (Int32.ofNat r) f d fl = some (-2) := by
          rw [mX9_valueOn, b_rcv, if_pos (lK56 L), e2, o_bind, if_neg n10, b_gR, if_pos (lK56 L), g1, b_rcv, if_pos i1, e3, o_bind, if_pos rfl]
        refine ⟨-2, by rw [start, e5], fun h1 R => ⟨_, ?_, R.th 0, Om.th 0⟩⟩
        have R2 := R.th 0
        have M := R2.1.1
        have f1 := q_isRow1 M R2.2.1.2.2.1 W.2.2.2.1 hr
        have f2 := q_isField0 R2 W hno
        simp (maxSteps := 3000000) (disch := omega) only [mX16_value, qK0 R.1.1, qK0 M, f1, n10, f2, ↓o_bind, o_map, ↓b_rcv, ↓b_gI, ↓b_gL, ↓b_gR, ↓b_gN, ↓b_pI, ↓b_pL, ↓b_pR, ↓b_gAI, ↓b_gAL, ↓b_gAR, ↓b_pAI, ↓b_pAL, bad_of, bad_l, Bool.false_eq_true, ↓reduceIte, Int32.reduceLT, Int32.reduceLE, Int32.reduceToNatClampNeg, Int32.reduceOfNat, Int32.reduceAdd, Int32.reduceSub, Int32.reduceMul, Nat.reduceAdd, Nat.reduceMul, Nat.reduceEqDiff]
    · have e2 := p_has0 L g5 g6 hno
      have e5 : mX9_valueOn h (c + 56) a f d fl = some (-2) := by
        rw [mX9_valueOn, b_rcv, if_pos (lK56 L), e2, o_bind, if_pos rfl]
      refine ⟨-2, by rw [start, e5], fun h1 R => ⟨_, ?_, R.th 0, Om.th 0⟩⟩
      have R2 := R.th 0
      have M := R2.1.1
      have f1 := q_isRow0 M R2.2.1.2.2.1 W.2.2.2.1 hno
      simp (maxSteps := 3000000) (disch := omega) only [mX16_value, qK0 R.1.1, qK0 M, f1, ↓o_bind, o_map, ↓b_rcv, ↓b_gI, ↓b_gL, ↓b_gR, ↓b_gN, ↓b_pI, ↓b_pL, ↓b_pR, ↓b_gAI, ↓b_gAL, ↓b_gAR, ↓b_pAI, ↓b_pAL, bad_of, bad_l, Bool.false_eq_true, ↓reduceIte, Int32.reduceLT, Int32.reduceLE, Int32.reduceToNatClampNeg, Int32.reduceOfNat, Int32.reduceAdd, Int32.reduceSub, Int32.reduceMul, Nat.reduceAdd, Nat.reduceMul, Nat.reduceEqDiff]
  · rw [if_neg hd] at e1
    refine ⟨-2, ?_, fun h1 R => ⟨sI h1 m 0 0, ?_, R.th 0, Om.th 0⟩⟩
    · rw [mX11_value, b_gR, if_pos (lK0 L), lR0_2 L, b_rcv, if_pos (lK56 L), e1, o_bind, if_pos rfl]
    · have R2 := R.th 0
      have M := R2.1.1
      rcases rng a (aN A 2) with ⟨r, hr, rfl⟩ | hno
      · have f1 := q_isRow1 M R2.2.1.2.2.1 W.2.2.2.1 hr
        rcases rng f (bF (aB A)) with ⟨q, hq, rfl⟩ | hno
        · obtain ⟨b', Q⟩ := R2.rq W (W.pos hr)
          have f2 := q_isField1 R2 W hq
          have s7 := Q.1.2.2.2.2.1
          have s3 := R2.2.1.2.2.2.2.2.2.2.1
          have u2 := (W.2.2.2.2.2.2.2.2.2.1 r hr).2.1
          have n60r := W.2.2.2.1
          have f4 : mX16_in (sI h1 m 0 0) d (aA A 1 r) (aS A 3) = some 0 := by rw [q_in, if_neg (fun hh => hd ⟨Int32.le_trans u2 hh.1, hh.2⟩)]
          simp (maxSteps := 3000000) (disch := omega) only [mX16_value, qK0 R.1.1, qK0 M, f1, n10, f2, qR23 M, qK7 M, qN7 M, cl_of, s7, s3, f4, ↓o_bind, o_map, ↓b_rcv, ↓b_gI, ↓b_gL, ↓b_gR, ↓b_gN, ↓b_pI, ↓b_pL, ↓b_pR, ↓b_gAI, ↓b_gAL, ↓b_gAR, ↓b_pAI, ↓b_pAL, bad_of, bad_l, Bool.false_eq_true, ↓reduceIte, Int32.reduceLT, Int32.reduceLE, Int32.reduceToNatClampNeg, Int32.reduceOfNat, Int32.reduceAdd, Int32.reduceSub, Int32.reduceMul, Nat.reduceAdd, Nat.reduceMul, Nat.reduceEqDiff]
        · have f2 := q_isField0 R2 W hno
          simp (maxSteps := 3000000) (disch := omega) only [mX16_value, qK0 R.1.1, qK0 M, f1, n10, f2, ↓o_bind, o_map, ↓b_rcv, ↓b_gI, ↓b_gL, ↓b_gR, ↓b_gN, ↓b_pI, ↓b_pL, ↓b_pR, ↓b_gAI, ↓b_gAL, ↓b_gAR, ↓b_pAI, ↓b_pAL, bad_of, bad_l, Bool.false_eq_true, ↓reduceIte, Int32.reduceLT, Int32.reduceLE, Int32.reduceToNatClampNeg, Int32.reduceOfNat, Int32.reduceAdd, Int32.reduceSub, Int32.reduceMul, Nat.reduceAdd, Nat.reduceMul, Nat.reduceEqDiff]
      · have f1 := q_isRow0 M R2.2.1.2.2.1 W.2.2.2.1 hno
        simp (maxSteps := 3000000) (disch := omega) only [mX16_value, qK0 R.1.1, qK0 M, f1, ↓o_bind, o_map, ↓b_rcv, ↓b_gI, ↓b_gL, ↓b_gR, ↓b_gN, ↓b_pI, ↓b_pL, ↓b_pR, ↓b_gAI, ↓b_gAL, ↓b_gAR, ↓b_pAI, ↓b_pAL, bad_of, bad_l, Bool.false_eq_true, ↓reduceIte, Int32.reduceLT, Int32.reduceLE, Int32.reduceToNatClampNeg, Int32.reduceOfNat, Int32.reduceAdd, Int32.reduceSub, Int32.reduceMul, Nat.reduceAdd, Nat.reduceMul, Nat.reduceEqDiff]

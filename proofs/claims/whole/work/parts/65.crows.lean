/-! the class's rows -/
def sn (a d : Int32) : Bool := decide (a ≠ -2) && decide (a ≤ d)
/-- what stands for a row's value on a day -/
def rV (c : Nat) (h : MHp) (r f : Nat) (d : Int32) (fil : Nat) : Int32 :=
  if (if sn (hAI h (c + 112) r) d = true then hAI h (c + 116) (r * 6 + f) else hAI h (c + 115) (r * 6 + f)) = -1 then (if sn (hAI h (c + 113) r) d = true then hAI h (c + 117) (fil * 360 + (r * 6 + f)) else -1) else (if sn (hAI h (c + 112) r) d = true then hAI h (c + 116) (r * 6 + f) else hAI h (c + 115) (r * 6 + f))
def lV (c : Nat) (h : MHp) (nf r : Nat) (d : Int32) (fil j : Nat) : Int32 := if j < nf ∧ hAI h (c + 110) r ≤ d then rV c h r j d fil else -2
theorem ix6 (r f : Nat) : Int32.ofNat r * 6 + Int32.ofNat f = Int32.ofNat (r * 6 + f) := by simp
theorem ix360 (r f : Nat) : Int32.ofNat r * 360 + Int32.ofNat f = Int32.ofNat (r * 360 + f) := by simp
theorem p_since (h : MHp) (a d : Int32) : mX9_isSince h a d = some (if sn a d = true then 1 else 0) := by
  unfold mX9_isSince sn
  by_cases h1 : a = -2
  · simp [h1]
  · by_cases h2 : d < a
    · have h3 : ¬ a ≤ d := fun h => Int32.not_le.mpr h2 h
      simp [h1, h2, h3]
    · have h3 : a ≤ d := Int32.not_lt.mp h2
      simp [h1, h2, h3]
theorem p_has1 {c n r : Nat} {h : MHp} (L : CL c h) (ht : hI h (c + 56) 6 = Int32.ofNat n) (hn : n ≤ 60) (hr : r < n) : mX9_has h (c + 56) (Int32.ofNat r) = some 1 := by
  simp (disch := first | assumption | omega | (simp (disch := omega) only [Int32.lt_iff_toInt_lt, Int32.le_iff_toInt_le, ← Int32.toInt_inj, ti_of, Int32.reduceToInt]; omega)) only [mX9_has, lK56 L, ht, o_bind, o_map, b_rcv, b_gI, b_gL, b_gR, b_gN, b_pI, b_pL, b_pR, b_gAI, b_gAL, b_gAR, b_pAI, b_pAL, bad_of, bad_l, Bool.false_eq_true, ↓reduceIte, Int32.reduceLT, Int32.reduceLE, Int32.reduceToNatClampNeg, Int32.reduceOfNat, Int32.reduceAdd, Int32.reduceSub, Int32.reduceMul, Nat.reduceAdd, Nat.reduceMul, Nat.reduceEqDiff, if_pos, if_neg]
theorem p_has0 {c n : Nat} {a : Int32} {h : MHp} (L : CL c h) (ht : hI h (c + 56) 6 = Int32.ofNat n) (hn : n ≤ 60) (ha : ∀ r : Nat, r < n → a ≠ Int32.ofNat r) : mX9_has h (c + 56) a = some 0 := by
  by_cases h1 : a < 0
  · simp only [mX9_has, if_pos h1]
  · obtain ⟨k, rfl, hk⟩ := ex_of h1
    have h2 : n ≤ k := Nat.le_of_not_lt (fun h => ha k h rfl)
    simp (disch := first | assumption | omega | (simp (disch := omega) only [Int32.lt_iff_toInt_lt, Int32.le_iff_toInt_le, ← Int32.toInt_inj, ti_of, Int32.reduceToInt]; omega)) only [mX9_has, lK56 L, ht, o_bind, o_map, b_rcv, b_gI, b_gL, b_gR, b_gN, b_pI, b_pL, b_pR, b_gAI, b_gAL, b_gAR, b_pAI, b_pAL, bad_of, bad_l, Bool.false_eq_true, ↓reduceIte, Int32.reduceLT, Int32.reduceLE, Int32.reduceToNatClampNeg, Int32.reduceOfNat, Int32.reduceAdd, Int32.reduceSub, Int32.reduceMul, Nat.reduceAdd, Nat.reduceMul, Nat.reduceEqDiff, if_pos, if_neg]
theorem p_hasField {h : MHp} {b nf f : Nat} (I : IsB h b) (hf : hI h b 4 = Int32.ofNat nf) (hn : nf ≤ 6) (hl : f < nf) : mX1_hasField h b (Int32.ofNat f) = some 1 := by
  have i1 := I.1
  simp (disch := first | assumption | omega | (simp (disch := omega) only [Int32.lt_iff_toInt_lt, Int32.le_iff_toInt_le, ← Int32.toInt_inj, ti_of, Int32.reduceToInt]; omega)) only [mX1_hasField, i1, hf, o_bind, o_map, b_rcv, b_gI, b_gL, b_gR, b_gN, b_pI, b_pL, b_pR, b_gAI, b_gAL, b_gAR, b_pAI, b_pAL, bad_of, bad_l, Bool.false_eq_true, ↓reduceIte, Int32.reduceLT, Int32.reduceLE, Int32.reduceToNatClampNeg, Int32.reduceOfNat, Int32.reduceAdd, Int32.reduceSub, Int32.reduceMul, Nat.reduceAdd, Nat.reduceMul, Nat.reduceEqDiff, if_pos, if_neg]
theorem p_hasField0 {h : MHp} {b nf : Nat} {a : Int32} (I : IsB h b) (hf : hI h b 4 = Int32.ofNat nf) (hn : nf ≤ 6) (ha : ∀ f : Nat, f < nf → a ≠ Int32.ofNat f) : mX1_hasField h b a = some 0 := by
  have i1 := I.1
  by_cases h1 : a < 0
  · simp only [mX1_hasField, if_pos h1]
  · obtain ⟨k, rfl, hk⟩ := ex_of h1
    have h2 : nf ≤ k := Nat.le_of_not_lt (fun h => ha k h rfl)
    simp (disch := first | assumption | omega | (simp (disch := omega) only [Int32.lt_iff_toInt_lt, Int32.le_iff_toInt_le, ← Int32.toInt_inj, ti_of, Int32.reduceToInt]; omega)) only [mX1_hasField, i1, hf, o_bind, o_map, b_rcv, b_gI, b_gL, b_gR, b_gN, b_pI, b_pL, b_pR, b_gAI, b_gAL, b_gAR, b_pAI, b_pAL, bad_of, bad_l, Bool.false_eq_true, ↓reduceIte, Int32.reduceLT, Int32.reduceLE, Int32.reduceToNatClampNeg, Int32.reduceOfNat, Int32.reduceAdd, Int32.reduceSub, Int32.reduceMul, Nat.reduceAdd, Nat.reduceMul, Nat.reduceEqDiff, if_pos, if_neg]
theorem p_valueOn {c b n nf r f fil : Nat} {h : MHp} (L : CL c h) (hb : hR h (c + 56) 5 = some b) (I : IsB h b) (ht : hI h (c + 56) 6 = Int32.ofNat n) (hn : n ≤ 60) (hf : hI h b 4 = Int32.ofNat nf) (hnf : nf ≤ 6) (hr : r < n) (hfil : fil < 5) (d : Int32) (hf6 : f < 6) : mX9_valueOn h (c + 56) (Int32.ofNat r) (Int32.ofNat f) d (Int32.ofNat fil) = some (lV c h nf r d fil f) := by
  have e1 := p_has1 L ht hn hr
  have i1 := I.1
  by_cases hl : f < nf
  · have e2 := p_hasField I hf hnf hl
    have e3 : mX11_isWithin h (Int32.ofNat fil) 0 4 = some 1 := by simp (disch := first | assumption | omega | (simp (disch := omega) only [Int32.lt_iff_toInt_lt, Int32.le_iff_toInt_le, ← Int32.toInt_inj, ti_of, Int32.reduceToInt]; omega)) only [mX11_isWithin, o_bind, o_map, b_rcv, b_gI, b_gL, b_gR, b_gN, b_pI, b_pL, b_pR, b_gAI, b_gAL, b_gAR, b_pAI, b_pAL, bad_of, bad_l, Bool.false_eq_true, ↓reduceIte, Int32.reduceLT, Int32.reduceLE, Int32.reduceToNatClampNeg, Int32.reduceOfNat, Int32.reduceAdd, Int32.reduceSub, Int32.reduceMul, Nat.reduceAdd, Nat.reduceMul, Nat.reduceEqDiff, if_pos, if_neg]
    by_cases h1 : hAI h (c + 110) r ≤ d
    · simp (disch := first | assumption | omega | (simp (disch := omega) only [Int32.lt_iff_toInt_lt, Int32.le_iff_toInt_le, ← Int32.toInt_inj, ti_of, Int32.reduceToInt]; omega)) only [mX9_valueOn, mX9_valueOn_b80, lK56 L, lR56_0 L, lR56_2 L, lR56_3 L, lR56_8 L, lR56_9 L, lR56_10 L, lK110 L, lN110 L, lK112 L, lN112 L, lK113 L, lN113 L, lK115 L, lN115 L, lK116 L, lN116 L, lK117 L, lN117 L, hb, i1, e1, e2, e3, cl_of, ix6, ix360, p_since, o_bind, o_map, b_rcv, b_gI, b_gL, b_gR, b_gN, b_pI, b_pL, b_pR, b_gAI, b_gAL, b_gAR, b_pAI, b_pAL, bad_of, bad_l, Bool.false_eq_true, ↓reduceIte, Int32.reduceLT, Int32.reduceLE, Int32.reduceToNatClampNeg, Int32.reduceOfNat, Int32.reduceAdd, Int32.reduceSub, Int32.reduceMul, Nat.reduceAdd, Nat.reduceMul, Nat.reduceEqDiff, if_pos, if_neg]
      simp only [lV, rV, hl, h1, true_and, if_true]
      by_cases g1 : sn (hAI h (c + 112) r) d = true
      · by_cases g2 : hAI h (c + 116) (r * 6 + f) = -1
        · by_cases g3 : sn (hAI h (c + 113) r) d = true <;> simp [g1, g2, g3]
        · simp [g1, g2]
      · by_cases g2 : hAI h (c + 115) (r * 6 + f) = -1
        · by_cases g3 : sn (hAI h (c + 113) r) d = true <;> simp [g1, g2, g3]
        · simp [g1, g2]
    · simp (disch := first | assumption | omega | (simp (disch := omega) only [Int32.lt_iff_toInt_lt, Int32.le_iff_toInt_le, ← Int32.toInt_inj, ti_of, Int32.reduceToInt]; omega)) only [mX9_valueOn, lK56 L, lR56_0 L, lK110 L, lN110 L, hb, i1, e1, e2, e3, cl_of, o_bind, o_map, b_rcv, b_gI, b_gL, b_gR, b_gN, b_pI, b_pL, b_pR, b_gAI, b_gAL, b_gAR, b_pAI, b_pAL, bad_of, bad_l, Bool.false_eq_true, ↓reduceIte, Int32.reduceLT, Int32.reduceLE, Int32.reduceToNatClampNeg, Int32.reduceOfNat, Int32.reduceAdd, Int32.reduceSub, Int32.reduceMul, Nat.reduceAdd, Nat.reduceMul, Nat.reduceEqDiff, if_pos, if_neg]
      simp [lV, h1]
  · have e2 := p_hasField0 I hf hnf (a := Int32.ofNat f) (fun g hg e => by rw [eq_of (by omega) (by omega)] at e; omega)
    simp (disch := first | assumption | omega | (simp (disch := omega) only [Int32.lt_iff_toInt_lt, Int32.le_iff_toInt_le, ← Int32.toInt_inj, ti_of, Int32.reduceToInt]; omega)) only [mX9_valueOn, lK56 L, hb, i1, e1, e2, o_bind, o_map, b_rcv, b_gI, b_gL, b_gR, b_gN, b_pI, b_pL, b_pR, b_gAI, b_gAL, b_gAR, b_pAI, b_pAL, bad_of, bad_l, Bool.false_eq_true, ↓reduceIte, Int32.reduceLT, Int32.reduceLE, Int32.reduceToNatClampNeg, Int32.reduceOfNat, Int32.reduceAdd, Int32.reduceSub, Int32.reduceMul, Nat.reduceAdd, Nat.reduceMul, Nat.reduceEqDiff, if_pos, if_neg]
    simp [lV, hl]

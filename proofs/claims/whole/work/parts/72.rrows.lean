/-! the reference's rows -/
theorem ix6' (r f : Nat) : 6 * Int32.ofNat r + Int32.ofNat f = Int32.ofNat (r * 6 + f) := by simp; rw [Int32.mul_comm]
theorem ix30 (r i f : Nat) : 6 * (5 * Int32.ofNat r + Int32.ofNat i) + Int32.ofNat f = Int32.ofNat (6 * (5 * r + i) + f) := by simp
theorem mb_pos {s : Int32} {f : Nat} : ((s >>> (Int32.ofNat f &&& 31)) &&& 1 = 1) = (mb s f = true) := by simp [mb]
/-- of the rows, what a value is read from -/
def RV (m n : Nat) (h : MHp) (A : AS) : Prop := QL m h ∧ hAI h (m + 4) = aA A 6 ∧ hAI h (m + 5) = aA A 7 ∧ hAI h (m + 6) = aA A 8 ∧ hAI h (m + 7) = aA A 1 ∧ hAI h (m + 10) = aA A 9 ∧ ∀ r : Nat, r < n → hAI h (m + 8) r = un2 (aA A 2 r) ∧ hAI h (m + 9) r = un2 (aA A 3 r) ∧ hAI h (m + 11) r = un2 (aA A 4 r) ∧ (aA A 2 r ≠ -2 → 0 ≤ aA A 2 r) ∧ (aA A 3 r ≠ -2 → 0 ≤ aA A 3 r) ∧ (aA A 4 r ≠ -2 → 0 ≤ aA A 4 r)
theorem RV.sc {m n : Nat} {h h' : MHp} {A : AS} (S : Rs m h h') (C : RV m n h A) : RV m n h' A := by
  obtain ⟨L, c1, c2, c3, c4, c5, c6⟩ := C
  have e := fun a d => S.cell (a := a) d
  unfold RV
  rw [e 4 (by decide), e 5 (by decide), e 6 (by decide), e 7 (by decide), e 8 (by decide), e 9 (by decide), e 10 (by decide), e 11 (by decide)]
  exact ⟨S.QL L, c1, c2, c3, c4, c5, c6⟩
theorem un2_m {x : Int32} (h : x ≠ -2 → 0 ≤ x) : (un2 x = -1) = (x = -2) := by
  unfold un2
  by_cases e : x = -2
  · simp [e]
  · rw [if_neg e]
    apply propext
    constructor
    · intro e2
      subst e2
      exact absurd (h e) (by decide)
    · intro e2; exact absurd e2 e
theorem un2_n {x : Int32} (h : ¬ x = -2) : un2 x = x := if_neg h
theorem n1_of {x : Int32} (h : 0 ≤ x) : ¬ x = -1 := by intro e; subst e; exact absurd h (by decide)
theorem un22 : un2 (-2) = -1 := by decide
theorem le_n {a d : Int32} (h : ¬ d < a) : a ≤ d := Int32.not_lt.mp h
theorem le_y {a d : Int32} (h : d < a) : ¬ a ≤ d := fun g => Int32.not_lt.mpr g h
theorem q_b50 {m n r f fil : Nat} {h : MHp} {A : AS} {d : Int32} (V : RV m n h A) (hn : n ≤ 60) (hr : r < n) (hf : f < 6) (hfil : fil < 5) : mX16_valueOf_b50 h m (Int32.ofNat r) (Int32.ofNat f) d (Int32.ofNat fil) (Int32.ofNat (r * 6 + f)) = some (if aA A 6 (r * 6 + f) = -1 then (if sn (aA A 4 r) d = true then aA A 8 (6 * (5 * r + fil) + f) else -1) else aA A 6 (r * 6 + f)) := by
  obtain ⟨L, c1, -, c3, -, -, c6⟩ := V
  obtain ⟨-, -, r3, -, -, r6⟩ := c6 r hr
  have e0 := qK0 L
  have e1 := qR20 L
  have e2 := qK4 L
  have e3 := qN4 L
  have e5 := qR27 L
  have e6 := qK11 L
  have e7 := qN11 L
  by_cases g2 : aA A 6 (r * 6 + f) = -1
  · by_cases g4 : aA A 4 r = -2
    · rw [g4] at r3
      simp (disch := first | assumption | omega | (simp (disch := omega) only [Int32.lt_iff_toInt_lt, Int32.le_iff_toInt_le, ← Int32.toInt_inj, ti_of, Int32.reduceToInt]; omega)) only [mX16_valueOf_b50, mX16_valueOf_b100, e0, e1, e2, e3, e5, e6, e7, cl_of, c1, g2, r3, un22, o_bind, o_map, b_rcv, b_gI, b_gL, b_gR, b_gN, b_pI, b_pL, b_pR, b_gAI, b_gAL, b_gAR, b_pAI, b_pAL, bad_of, bad_l, Bool.false_eq_true, ↓reduceIte, Int32.reduceLT, Int32.reduceLE, Int32.reduceToNatClampNeg, Int32.reduceOfNat, Int32.reduceAdd, Int32.reduceSub, Int32.reduceMul, Nat.reduceAdd, Nat.reduceMul, Nat.reduceEqDiff, if_pos, if_neg]
      simp [sn, g4]
    · rw [un2_n g4] at r3
      have g8 := n1_of (r6 g4)
      by_cases g3 : d < aA A 4 r
      · simp (disch := first | assumption | omega | (simp (disch := omega) only [Int32.lt_iff_toInt_lt, Int32.le_iff_toInt_le, ← Int32.toInt_inj, ti_of, Int32.reduceToInt]; omega)) only [mX16_valueOf_b50, mX16_valueOf_b100, e0, e1, e2, e3, e5, e6, e7, cl_of, c1, g2, r3, g8, g3, o_bind, o_map, b_rcv, b_gI, b_gL, b_gR, b_gN, b_pI, b_pL, b_pR, b_gAI, b_gAL, b_gAR, b_pAI, b_pAL, bad_of, bad_l, Bool.false_eq_true, ↓reduceIte, Int32.reduceLT, Int32.reduceLE, Int32.reduceToNatClampNeg, Int32.reduceOfNat, Int32.reduceAdd, Int32.reduceSub, Int32.reduceMul, Nat.reduceAdd, Nat.reduceMul, Nat.reduceEqDiff, if_pos, if_neg]
        simp [sn, le_y g3]
      · simp (disch := first | assumption | omega | (simp (disch := omega) only [Int32.lt_iff_toInt_lt, Int32.le_iff_toInt_le, ← Int32.toInt_inj, ti_of, Int32.reduceToInt]; omega)) only [mX16_valueOf_b50, mX16_valueOf_b100, e0, e1, e2, e3, e5, e6, e7, cl_of, c1, g2, r3, g8, g3, qR22 L, qK6 L, qN6 L, ix30, c3, o_bind, o_map, b_rcv, b_gI, b_gL, b_gR, b_gN, b_pI, b_pL, b_pR, b_gAI, b_gAL, b_gAR, b_pAI, b_pAL, bad_of, bad_l, Bool.false_eq_true, ↓reduceIte, Int32.reduceLT, Int32.reduceLE, Int32.reduceToNatClampNeg, Int32.reduceOfNat, Int32.reduceAdd, Int32.reduceSub, Int32.reduceMul, Nat.reduceAdd, Nat.reduceMul, Nat.reduceEqDiff, if_pos, if_neg]
        simp [sn, le_n g3, g4]
  · simp (disch := first | assumption | omega | (simp (disch := omega) only [Int32.lt_iff_toInt_lt, Int32.le_iff_toInt_le, ← Int32.toInt_inj, ti_of, Int32.reduceToInt]; omega)) only [mX16_valueOf_b50, mX16_valueOf_b100, e0, e1, e2, e3, cl_of, c1, g2, o_bind, o_map, b_rcv, b_gI, b_gL, b_gR, b_gN, b_pI, b_pL, b_pR, b_gAI, b_gAL, b_gAR, b_pAI, b_pAL, bad_of, bad_l, Bool.false_eq_true, ↓reduceIte, Int32.reduceLT, Int32.reduceLE, Int32.reduceToNatClampNeg, Int32.reduceOfNat, Int32.reduceAdd, Int32.reduceSub, Int32.reduceMul, Nat.reduceAdd, Nat.reduceMul, Nat.reduceEqDiff, if_pos, if_neg]
theorem q_valueOf {m n r f fil : Nat} {h : MHp} {A : AS} {d : Int32} (V : RV m n h A) (hn : n ≤ 60) (hr : r < n) (hf : f < 6) (hfil : fil < 5) : mX16_valueOf h m (Int32.ofNat r) (Int32.ofNat f) d (Int32.ofNat fil) = some (vA A r f d fil) := by
  have e4 := q_b50 (d := d) V hn hr hf hfil
  obtain ⟨L, c1, c2, -, -, c5, c6⟩ := V
  obtain ⟨-, r2, -, -, r5, -⟩ := c6 r hr
  have e0 := qK0 L
  have e1 := qR25 L
  have e2 := qK9 L
  have e3 := qN9 L
  by_cases g1 : aA A 3 r = -2
  · rw [g1] at r2
    simp (disch := first | assumption | omega | (simp (disch := omega) only [Int32.lt_iff_toInt_lt, Int32.le_iff_toInt_le, ← Int32.toInt_inj, ti_of, Int32.reduceToInt]; omega)) only [mX16_valueOf, e0, e1, e2, e3, cl_of, r2, un22, ix6', e4, o_bind, o_map, b_rcv, b_gI, b_gL, b_gR, b_gN, b_pI, b_pL, b_pR, b_gAI, b_gAL, b_gAR, b_pAI, b_pAL, bad_of, bad_l, Bool.false_eq_true, ↓reduceIte, Int32.reduceLT, Int32.reduceLE, Int32.reduceToNatClampNeg, Int32.reduceOfNat, Int32.reduceAdd, Int32.reduceSub, Int32.reduceMul, Nat.reduceAdd, Nat.reduceMul, Nat.reduceEqDiff, if_pos, if_neg]
    simp [vA, sn, g1]
  · rw [un2_n g1] at r2
    have g9 := n1_of (r5 g1)
    by_cases g7 : d < aA A 3 r
    · simp (disch := first | assumption | omega | (simp (disch := omega) only [Int32.lt_iff_toInt_lt, Int32.le_iff_toInt_le, ← Int32.toInt_inj, ti_of, Int32.reduceToInt]; omega)) only [mX16_valueOf, e0, e1, e2, e3, cl_of, r2, g9, g7, ix6', e4, o_bind, o_map, b_rcv, b_gI, b_gL, b_gR, b_gN, b_pI, b_pL, b_pR, b_gAI, b_gAL, b_gAR, b_pAI, b_pAL, bad_of, bad_l, Bool.false_eq_true, ↓reduceIte, Int32.reduceLT, Int32.reduceLE, Int32.reduceToNatClampNeg, Int32.reduceOfNat, Int32.reduceAdd, Int32.reduceSub, Int32.reduceMul, Nat.reduceAdd, Nat.reduceMul, Nat.reduceEqDiff, if_pos, if_neg]
      simp [vA, sn, le_y g7]
    · by_cases gm : mb (aA A 9 r) f = true
      · simp (disch := first | assumption | omega | (simp (disch := omega) only [Int32.lt_iff_toInt_lt, Int32.le_iff_toInt_le, ← Int32.toInt_inj, ti_of, Int32.reduceToInt]; omega)) only [mX16_valueOf, e0, e1, e2, e3, cl_of, r2, g9, g7, ix6', qR26 L, qK10 L, qN10 L, c5, mb_pos, gm, qR21 L, qK5 L, qN5 L, c2, o_bind, o_map, b_rcv, b_gI, b_gL, b_gR, b_gN, b_pI, b_pL, b_pR, b_gAI, b_gAL, b_gAR, b_pAI, b_pAL, bad_of, bad_l, Bool.false_eq_true, ↓reduceIte, Int32.reduceLT, Int32.reduceLE, Int32.reduceToNatClampNeg, Int32.reduceOfNat, Int32.reduceAdd, Int32.reduceSub, Int32.reduceMul, Nat.reduceAdd, Nat.reduceMul, Nat.reduceEqDiff, if_pos, if_neg]
        simp [vA, sn, le_n g7, g1, gm]
      · simp (disch := first | assumption | omega | (simp (disch := omega) only [Int32.lt_iff_toInt_lt, Int32.le_iff_toInt_le, ← Int32.toInt_inj, ti_of, Int32.reduceToInt]; omega)) only [mX16_valueOf, e0, e1, e2, e3, cl_of, r2, g9, g7, ix6', qR26 L, qK10 L, qN10 L, c5, mb_pos, gm, e4, o_bind, o_map, b_rcv, b_gI, b_gL, b_gR, b_gN, b_pI, b_pL, b_pR, b_gAI, b_gAL, b_gAR, b_pAI, b_pAL, bad_of, bad_l, Bool.false_eq_true, ↓reduceIte, Int32.reduceLT, Int32.reduceLE, Int32.reduceToNatClampNeg, Int32.reduceOfNat, Int32.reduceAdd, Int32.reduceSub, Int32.reduceMul, Nat.reduceAdd, Nat.reduceMul, Nat.reduceEqDiff, if_pos, if_neg]
        simp [vA, gm]

/-! the reference's figures -/
theorem bB_eq_iff {A : AS} {x : Nat → Int32} : (bB (aB A) x < bN (aB A)) = ¬ (bB (aB A) x = bN (aB A)) := by
  have := bB_le (aB A) x
  apply propext
  omega
theorem q_brokenRow {m b n k : Nat} {h : MHp} {A : AS} (Q : RQ m b n h A) (hk : hK h k = 20) (hn : hN h k = 6) : mX12_broken h b (some k) = some (if bB (aB A) (hAI h k) < bN (aB A) then Int32.ofNat (bB (aB A) (hAI h k)) else -1) := q_broken Q.2.2.1 Q.2.2.2.1 hk hn
theorem nm_of {k : Nat} (h : k < 2147483648) : ¬ Int32.ofNat k = -1 := by
  rw [← Int32.toInt_inj, ti_of h]
  have : (-1 : Int32).toInt = -1 := rfl
  rw [this]; omega
theorem rb_if {A : AS} {x : Nat → Int32} (W : WB (aB A)) : ((if bB (aB A) x < bN (aB A) then Int32.ofNat (bB (aB A) x) else -1) = -1) = (bB (aB A) x = bN (aB A)) := by
  have h1 := bB_le (aB A) x
  have h2 := W.2.1
  by_cases e : bB (aB A) x < bN (aB A)
  · rw [if_pos e]
    have := nm_of (k := bB (aB A) x) (by omega)
    apply propext
    constructor
    · intro h; exact absurd h this
    · intro h; omega
  · rw [if_neg e]
    apply propext
    constructor
    · intro _; omega
    · intro _; rfl
theorem q_isIn {m b n r fil p : Nat} {h : MHp} {A : AS} {P : Pl} {i j : Int32} (Q : RQ m b n h A) (hr : r < n) (hfil : fil < 5) (d : Int32) (hP : RP (m + 26) h p P) (W : WP (aB A) P) : ∃ h' : MHp, mX16_isIn h m (some p) (Int32.ofNat r) i j d (Int32.ofNat fil) = some (if (okA A r d fil && inP P (vX A r d fil) i j) = true then 1 else 0, h') ∧ (Rs m h h' ∧ hI h' = hI h) ∧ (okA A r d fil = true → hAI h' (m + 13) = rD A r d fil (hAI h (m + 13))) := by
  have L := Q.1.1
  have e0 := qK0 L
  have e1 := q_isThere Q.1 Q.2.2.2.2.2.1 hr d
  by_cases g1 : thA A r d = true
  · have e2 := q_loads Q hr hfil d (k := 13) (Or.inl rfl)
    have S : Rs m h (sAI h (m + 13) (rD A r d fil (hAI h (m + 13)))) := Rs.AI 13 _ (by decide)
    have hx : hAI (sAI h (m + 13) (rD A r d fil (hAI h (m + 13)))) (m + 13) = rD A r d fil (hAI h (m + 13)) := by rw [e_sAI, if_pos rfl]
    have Q2 := Q.sc S
    have hI2 : hI (sAI h (m + 13) (rD A r d fil (hAI h (m + 13)))) = hI h := rfl
    have hP2 : RP (m + 26) (sAI h (m + 13) (rD A r d fil (hAI h (m + 13)))) p P := hP.ag (S.out (Or.inr (by omega))) (Nat.le_refl _)
    have L2 := Q2.1.1
    revert e2 S hx Q2 hI2 hP2 L2
    generalize sAI h (m + 13) (rD A r d fil (hAI h (m + 13))) = h2
    intro e2 S hx Q2 hI2 hP2 L2
    refine ⟨h2, ?_, ⟨S, hI2⟩, fun _ => hx⟩
    have W4 := Q.2.2.2.1
    have e3 := q_brokenRow Q2 (k := m + 13) (qK13 L2) (qN13 L2)
    rw [hx, bB_rD W4] at e3
    have j1 := Q2.2.1
    have j2 := Q2.2.2.1.1.1
    have f0 := qK0 L2
    have f1 := qR29 L2
    have f2 := qK13 L2
    have f3 := qN13 L2
    have g3 := rb_if (x := vX A r d fil) W4
    obtain ⟨p1, p2, p3, p4, -, p5⟩ := hP2
    obtain ⟨w1, w2, w3, w4, w5⟩ := W
    have hB := W4.1
    have xe : ∀ f : Nat, f < bF (aB A) → rD A r d fil (hAI h (m + 13)) f = vX A r d fil f := fun f hf => by simp only [rD, vX, if_pos hf]
    by_cases g2 : bB (aB A) (vX A r d fil) = bN (aB A)
    · have ok : okA A r d fil = true := by simp [okA, g1, g2]
      -- what comes behind the test
      have b106 : mX16_isIn_b106 h2 m (some p) = some (if oq (pS P) (fun f => decide (vX A r d fil f ≠ -1)) = true then 1 else 0, h2) := by
        cases e : pS P with
        | none =>
          rw [e] at p2
          have p2' : hI h2 p 0 = -1 := p2
          simp (maxSteps := 3000000) (disch := omega) only [mX16_isIn_b106, p1.1, p2', ↓o_bind, o_map, ↓b_rcv, ↓b_gI, ↓b_gL, ↓b_gR, ↓b_gN, ↓b_pI, ↓b_pL, ↓b_pR, ↓b_gAI, ↓b_gAL, ↓b_gAR, ↓b_pAI, ↓b_pAL, bad_of, bad_l, Bool.false_eq_true, ↓reduceIte, Int32.reduceLT, Int32.reduceLE, Int32.reduceToNatClampNeg, Int32.reduceOfNat, Int32.reduceAdd, Int32.reduceSub, Int32.reduceMul, Nat.reduceAdd, Nat.reduceMul, Nat.reduceEqDiff]
          simp [oq_n]
        | some f =>
          have hf := w1 f e
          obtain ⟨o1, o2⟩ := oi_m e (by omega)
          rw [o1] at p2 o2
          by_cases g5 : vX A r d fil f = -1
          · simp (maxSteps := 3000000) (disch := omega) only [mX16_isIn_b106, p1.1, p2, o2, f0, f1, f2, f3, cl_of, hx, xe f hf, g5, ↓o_bind, o_map, ↓b_rcv, ↓b_gI, ↓b_gL, ↓b_gR, ↓b_gN, ↓b_pI, ↓b_pL, ↓b_pR, ↓b_gAI, ↓b_gAL, ↓b_gAR, ↓b_pAI, ↓b_pAL, bad_of, bad_l, Bool.false_eq_true, ↓reduceIte, Int32.reduceLT, Int32.reduceLE, Int32.reduceToNatClampNeg, Int32.reduceOfNat, Int32.reduceAdd, Int32.reduceSub, Int32.reduceMul, Nat.reduceAdd, Nat.reduceMul, Nat.reduceEqDiff]
            simp [oq_s, g5]
          · simp (maxSteps := 3000000) (disch := omega) only [mX16_isIn_b106, p1.1, p2, o2, f0, f1, f2, f3, cl_of, hx, xe f hf, g5, ↓o_bind, o_map, ↓b_rcv, ↓b_gI, ↓b_gL, ↓b_gR, ↓b_gN, ↓b_pI, ↓b_pL, ↓b_pR, ↓b_gAI, ↓b_gAL, ↓b_gAR, ↓b_pAI, ↓b_pAL, bad_of, bad_l, Bool.false_eq_true, ↓reduceIte, Int32.reduceLT, Int32.reduceLE, Int32.reduceToNatClampNeg, Int32.reduceOfNat, Int32.reduceAdd, Int32.reduceSub, Int32.reduceMul, Nat.reduceAdd, Nat.reduceMul, Nat.reduceEqDiff]
            simp [oq_s, g5]
      have b84 : mX16_isIn_b84 h2 m (some p) j = some (if (oq (pI2 P) (fun f => decide (vX A r d fil f = j)) && oq (pS P) (fun f => decide (vX A r d fil f ≠ -1))) = true then 1 else 0, h2) := by
        cases e : pI2 P with
        | none =>
          rw [e] at p4
          have p4' : hI h2 p 2 = -1 := p4
          simp (maxSteps := 3000000) (disch := omega) only [mX16_isIn_b84, p1.1, p4', b106, ↓o_bind, o_map, ↓b_rcv, ↓b_gI, ↓b_gL, ↓b_gR, ↓b_gN, ↓b_pI, ↓b_pL, ↓b_pR, ↓b_gAI, ↓b_gAL, ↓b_gAR, ↓b_pAI, ↓b_pAL, bad_of, bad_l, Bool.false_eq_true, ↓reduceIte, Int32.reduceLT, Int32.reduceLE, Int32.reduceToNatClampNeg, Int32.reduceOfNat, Int32.reduceAdd, Int32.reduceSub, Int32.reduceMul, Nat.reduceAdd, Nat.reduceMul, Nat.reduceEqDiff]
          simp [oq_n]
        | some f =>
          have hf := w3 f e
          obtain ⟨o1, o2⟩ := oi_m e (by omega)
          rw [o1] at p4 o2
          by_cases g5 : vX A r d fil f = j
          · simp (maxSteps := 3000000) (disch := omega) only [mX16_isIn_b84, p1.1, p4, o2, f0, f1, f2, f3, cl_of, hx, xe f hf, g5, b106, ↓o_bind, o_map, ↓b_rcv, ↓b_gI, ↓b_gL, ↓b_gR, ↓b_gN, ↓b_pI, ↓b_pL, ↓b_pR, ↓b_gAI, ↓b_gAL, ↓b_gAR, ↓b_pAI, ↓b_pAL, bad_of, bad_l, Bool.false_eq_true, ↓reduceIte, Int32.reduceLT, Int32.reduceLE, Int32.reduceToNatClampNeg, Int32.reduceOfNat, Int32.reduceAdd, Int32.reduceSub, Int32.reduceMul, Nat.reduceAdd, Nat.reduceMul, Nat.reduceEqDiff]
            simp [oq_s, g5]
          · simp (maxSteps := 3000000) (disch := omega) only [mX16_isIn_b84, p1.1, p4, o2, f0, f1, f2, f3, cl_of, hx, xe f hf, g5, ↓o_bind, o_map, ↓b_rcv, ↓b_gI, ↓b_gL, ↓b_gR, ↓b_gN, ↓b_pI, ↓b_pL, ↓b_pR, ↓b_gAI, ↓b_gAL, ↓b_gAR, ↓b_pAI, ↓b_pAL, bad_of, bad_l, Bool.false_eq_true, ↓reduceIte, Int32.reduceLT, Int32.reduceLE, Int32.reduceToNatClampNeg, Int32.reduceOfNat, Int32.reduceAdd, Int32.reduceSub, Int32.reduceMul, Nat.reduceAdd, Nat.reduceMul, Nat.reduceEqDiff]
            simp [oq_s, g5]
      have b63 : mX16_isIn_b63 h2 m (some p) i j = some (if (oq (pI1 P) (fun f => decide (vX A r d fil f = i)) && (oq (pI2 P) (fun f => decide (vX A r d fil f = j)) && oq (pS P) (fun f => decide (vX A r d fil f ≠ -1)))) = true then 1 else 0, h2) := by
        cases e : pI1 P with
        | none =>
          rw [e] at p3
          have p3' : hI h2 p 1 = -1 := p3
          simp (maxSteps := 3000000) (disch := omega) only [mX16_isIn_b63, p1.1, p3', b84, ↓o_bind, o_map, ↓b_rcv, ↓b_gI, ↓b_gL, ↓b_gR, ↓b_gN, ↓b_pI, ↓b_pL, ↓b_pR, ↓b_gAI, ↓b_gAL, ↓b_gAR, ↓b_pAI, ↓b_pAL, bad_of, bad_l, Bool.false_eq_true, ↓reduceIte, Int32.reduceLT, Int32.reduceLE, Int32.reduceToNatClampNeg, Int32.reduceOfNat, Int32.reduceAdd, Int32.reduceSub, Int32.reduceMul, Nat.reduceAdd, Nat.reduceMul, Nat.reduceEqDiff]
          simp [oq_n]
        | some f =>
          have hf := w2 f e
          obtain ⟨o1, o2⟩ := oi_m e (by omega)
          rw [o1] at p3 o2
          by_cases g5 : vX A r d fil f = i
          · simp (maxSteps := 3000000) (disch := omega) only [mX16_isIn_b63, p1.1, p3, o2, f0, f1, f2, f3, cl_of, hx, xe f hf, g5, b84, ↓o_bind, o_map, ↓b_rcv, ↓b_gI, ↓b_gL, ↓b_gR, ↓b_gN, ↓b_pI, ↓b_pL, ↓b_pR, ↓b_gAI, ↓b_gAL, ↓b_gAR, ↓b_pAI, ↓b_pAL, bad_of, bad_l, Bool.false_eq_true, ↓reduceIte, Int32.reduceLT, Int32.reduceLE, Int32.reduceToNatClampNeg, Int32.reduceOfNat, Int32.reduceAdd, Int32.reduceSub, Int32.reduceMul, Nat.reduceAdd, Nat.reduceMul, Nat.reduceEqDiff]
            simp [oq_s, g5]
          · simp (maxSteps := 3000000) (disch := omega) only [mX16_isIn_b63, p1.1, p3, o2, f0, f1, f2, f3, cl_of, hx, xe f hf, g5, ↓o_bind, o_map, ↓b_rcv, ↓b_gI, ↓b_gL, ↓b_gR, ↓b_gN, ↓b_pI, ↓b_pL, ↓b_pR, ↓b_gAI, ↓b_gAL, ↓b_gAR, ↓b_pAI, ↓b_pAL, bad_of, bad_l, Bool.false_eq_true, ↓reduceIte, Int32.reduceLT, Int32.reduceLE, Int32.reduceToNatClampNeg, Int32.reduceOfNat, Int32.reduceAdd, Int32.reduceSub, Int32.reduceMul, Nat.reduceAdd, Nat.reduceMul, Nat.reduceEqDiff]
            simp [oq_s, g5]
      rcases p5 with ⟨t1, t2⟩ | ⟨t, t1, -, -, t2⟩
      · have th : tH (pW P) (vX A r d fil) = true := by unfold tH; rw [t1]; exact allF_0 _ _
        simp (maxSteps := 3000000) (disch := omega) only [mX16_isIn, e0, e1, g1, qR29 L, e2, f0, f1, j1, j2, e3, g3, g2, p1.1, t2, b63, ↓o_bind, o_map, ↓b_rcv, ↓b_gI, ↓b_gL, ↓b_gR, ↓b_gN, ↓b_pI, ↓b_pL, ↓b_pR, ↓b_gAI, ↓b_gAL, ↓b_gAR, ↓b_pAI, ↓b_pAL, bad_of, bad_l, Bool.false_eq_true, ↓reduceIte, Int32.reduceLT, Int32.reduceLE, Int32.reduceToNatClampNeg, Int32.reduceOfNat, Int32.reduceAdd, Int32.reduceSub, Int32.reduceMul, Nat.reduceAdd, Nat.reduceMul, Nat.reduceEqDiff]
        simp [ok, inP, th]
      · have e5 := q_holds t2 w5 hB f2 f3
        rw [hx] at e5
        have e6 : tH (pW P) (rD A r d fil (hAI h (m + 13))) = tH (pW P) (vX A r d fil) := tH_congr w5 hB xe
        rw [e6] at e5
        have n1 : ¬ (some t = (none : Option Nat)) := by intro e; cases e
        have n2 := t2.1.1
        by_cases th : tH (pW P) (vX A r d fil) = true
        · simp (maxSteps := 3000000) (disch := omega) only [mX16_isIn, e0, e1, g1, qR29 L, e2, f0, f1, j1, j2, e3, g3, g2, p1.1, t1, n1, n2, e5, th, b63, ↓o_bind, o_map, ↓b_rcv, ↓b_gI, ↓b_gL, ↓b_gR, ↓b_gN, ↓b_pI, ↓b_pL, ↓b_pR, ↓b_gAI, ↓b_gAL, ↓b_gAR, ↓b_pAI, ↓b_pAL, bad_of, bad_l, Bool.false_eq_true, ↓reduceIte, Int32.reduceLT, Int32.reduceLE, Int32.reduceToNatClampNeg, Int32.reduceOfNat, Int32.reduceAdd, Int32.reduceSub, Int32.reduceMul, Nat.reduceAdd, Nat.reduceMul, Nat.reduceEqDiff]
          simp [ok, inP, th]
        · simp (maxSteps := 3000000) (disch := omega) only [mX16_isIn, e0, e1, g1, qR29 L, e2, f0, f1, j1, j2, e3, g3, g2, p1.1, t1, n1, n2, e5, th, ↓o_bind, o_map, ↓b_rcv, ↓b_gI, ↓b_gL, ↓b_gR, ↓b_gN, ↓b_pI, ↓b_pL, ↓b_pR, ↓b_gAI, ↓b_gAL, ↓b_gAR, ↓b_pAI, ↓b_pAL, bad_of, bad_l, Bool.false_eq_true, ↓reduceIte, Int32.reduceLT, Int32.reduceLE, Int32.reduceToNatClampNeg, Int32.reduceOfNat, Int32.reduceAdd, Int32.reduceSub, Int32.reduceMul, Nat.reduceAdd, Nat.reduceMul, Nat.reduceEqDiff]
          simp [ok, inP, th]
    · simp (maxSteps := 3000000) (disch := omega) only [mX16_isIn, e0, e1, g1, qR29 L, e2, f0, f1, j1, j2, e3, g3, g2, ↓o_bind, o_map, ↓b_rcv, ↓b_gI, ↓b_gL, ↓b_gR, ↓b_gN, ↓b_pI, ↓b_pL, ↓b_pR, ↓b_gAI, ↓b_gAL, ↓b_gAR, ↓b_pAI, ↓b_pAL, bad_of, bad_l, Bool.false_eq_true, ↓reduceIte, Int32.reduceLT, Int32.reduceLE, Int32.reduceToNatClampNeg, Int32.reduceOfNat, Int32.reduceAdd, Int32.reduceSub, Int32.reduceMul, Nat.reduceAdd, Nat.reduceMul, Nat.reduceEqDiff]
      simp [okA, g2]
  · refine ⟨h, ?_, ⟨Rs.rf, rfl⟩, fun hh => by simp [okA, g1] at hh⟩
    rw [if_neg g1] at e1
    unfold mX16_isIn
    rw [b_rcv, if_pos e0, e1, o_bind, if_pos rfl]
    simp [okA, g1]
/-- a sum over rows -/
def sumF (ok : Nat → Bool) (w : Nat → Int64) : Nat → Nat → Int64 → Int64
  | 0, _, a => a
  | q + 1, k, a => sumF ok w q (k + 1) (if ok k = true then a + w k else a)
theorem sumF_0 (ok : Nat → Bool) (w : Nat → Int64) (k : Nat) (a : Int64) : sumF ok w 0 k a = a := (rfl)
theorem sumF_s (ok : Nat → Bool) (w : Nat → Int64) (q k : Nat) (a : Int64) : sumF ok w (q + 1) k a = sumF ok w q (k + 1) (if ok k = true then a + w k else a) := (rfl)
theorem sumF_congr {ok ok' : Nat → Bool} {w w' : Nat → Int64} : ∀ (q k : Nat) (a : Int64), (∀ r, k ≤ r → r < k + q → ok r = ok' r ∧ (ok r = true → w r = w' r)) → sumF ok w q k a = sumF ok' w' q k a
  | 0, k, a, _ => rfl
  | q + 1, k, a, h => by
    obtain ⟨h1, h2⟩ := h k (by omega) (by omega)
    rw [sumF_s, sumF_s, sumF_congr q (k + 1) _ (fun r x y => h r (by omega) (by omega)), ← h1]
    by_cases e : ok k = true
    · rw [if_pos e, if_pos e, h2 e]
    · rw [if_neg e, if_neg e]
def tmA (P : Pl) (x : Nat → Int32) : Int32 := match pS P with
  | none => 1
  | some f => x f
def wtA (A : AS) (P : Pl) (r : Nat) (d : Int32) (fil : Nat) : Int64 := (aA A 5 r).toInt64 * (tmA P (vX A r d fil)).toInt64
def inA2 (A : AS) (P : Pl) (i j d : Int32) (fil r : Nat) : Bool := okA A r d fil && inP P (vX A r d fil) i j
def figA (A : AS) (P : Pl) (i j d : Int32) (fil : Nat) : Int64 := sumF (inA2 A P i j d fil) (fun r => wtA A P r d fil) (aN A 2) 0 0
theorem q_figure_l6 {m b n fil p : Nat} {A : AS} {P : Pl} {i j d : Int32} (hfil : fil < 5) (W : WP (aB A) P) : ∀ (q fu r : Nat) (h : MHp) (a : Int64), RQ m b n h A → RP (m + 26) h p P → r + q = n → q < fu → ∃ h' : MHp, mX16_figureOf_l6 fu h m (some p) i j d (Int32.ofNat fil) a (Int32.ofNat r) = some (sumF (inA2 A P i j d fil) (fun r => wtA A P r d fil) q r a, h') ∧ Rs m h h' := by
  intro q
  induction q with
  | zero =>
    intro fu r h a Q hP hr hfu
    obtain ⟨fu, rfl⟩ : ∃ g : Nat, fu = g + 1 := ⟨fu - 1, by omega⟩
    refine ⟨h, ?_, Rs.rf⟩
    have L := Q.1.1
    have e1 := Q.2.2.2.2.1
    have e2 := Q.2.2.2.2.2.1
    simp (disch := first | assumption | omega | (simp (disch := omega) only [Int32.lt_iff_toInt_lt, Int32.le_iff_toInt_le, ← Int32.toInt_inj, ti_of, Int32.reduceToInt]; omega)) only [mX16_figureOf_l6, qK0 L, e1, sumF_0, o_bind, o_map, b_rcv, b_gI, b_gL, b_gR, b_gN, b_pI, b_pL, b_pR, b_gAI, b_gAL, b_gAR, b_pAI, b_pAL, bad_of, bad_l, Bool.false_eq_true, ↓reduceIte, Int32.reduceLT, Int32.reduceLE, Int32.reduceToNatClampNeg, Int32.reduceOfNat, Int32.reduceAdd, Int32.reduceSub, Int32.reduceMul, Nat.reduceAdd, Nat.reduceMul, Nat.reduceEqDiff, if_pos, if_neg]
  | succ q ih =>
    intro fu r h a Q hP hr hfu
    obtain ⟨fu, rfl⟩ : ∃ g : Nat, fu = g + 1 := ⟨fu - 1, by omega⟩
    have L := Q.1.1
    have e0 := qK0 L
    have e1 := Q.2.2.2.2.1
    have e2 := Q.2.2.2.2.2.1
    obtain ⟨h2, f1, ⟨S, -⟩, f2⟩ := q_isIn (i := i) (j := j) Q (show r < n by omega) hfil d hP W
    have hP2 := hP.ag (S.out (Or.inr (by omega))) (by rw [S.2.2.2.2.1]; omega)
    have Q2 := Q.sc S
    have L2 := Q2.1.1
    obtain ⟨h3, g1, S2⟩ := ih fu (r + 1) h2 (if inA2 A P i j d fil r = true then a + wtA A P r d fil else a) Q2 hP2 (by omega) (by omega)
    refine ⟨h3, ?_, S.tr S2⟩
    rw [sumF_s, ← g1]
    have c1 : ¬ Int32.ofNat n ≤ Int32.ofNat r := by rw [le_of (by omega) (by omega)]; omega
    by_cases z : (okA A r d fil && inP P (vX A r d fil) i j) = true
    · have z2 : inA2 A P i j d fil r = true := z
      have z3 := f2 (by rw [Bool.and_eq_true] at z; exact z.1)
      rw [if_pos z] at f1
      have w5 := Q2.2.2.2.2.2.2.2
      obtain ⟨w1, w2, w3, w4, w6⟩ := W
      have p2 := hP2.2.1
      have p1 := hP2.1.1
      have hB := Q.2.2.2.1.1
      have n10 : ¬ ((1 : Int32) = 0) := by decide
      cases e : pS P with
      | none =>
        rw [e] at p2
        have p2' : hI h2 p 0 = -1 := p2
        have t1 : wtA A P r d fil = (aA A 5 r).toInt64 * (1 : Int32).toInt64 := by simp only [wtA, tmA, e]
        simp (maxSteps := 3000000) (disch := omega) only [mX16_figureOf_l6, mX16_figureOf_b62, mX16_figureOf_b67, e0, e1, c1, f1, n10, qK0 L2, qR28 L2, qK12 L2, qN12 L2, cl_of, w5, p1, p2', s1_of, z2, t1, ↓o_bind, o_map, ↓b_rcv, ↓b_gI, ↓b_gL, ↓b_gR, ↓b_gN, ↓b_pI, ↓b_pL, ↓b_pR, ↓b_gAI, ↓b_gAL, ↓b_gAR, ↓b_pAI, ↓b_pAL, bad_of, bad_l, Bool.false_eq_true, ↓reduceIte, Int32.reduceLT, Int32.reduceLE, Int32.reduceToNatClampNeg, Int32.reduceOfNat, Int32.reduceAdd, Int32.reduceSub, Int32.reduceMul, Nat.reduceAdd, Nat.reduceMul, Nat.reduceEqDiff]
      | some f =>
        have hf := w1 f e
        obtain ⟨o1, o2⟩ := oi_m e (by omega)
        rw [e] at o1 o2
        rw [e, o1] at p2
        rw [o1] at o2
        have t1 : wtA A P r d fil = (aA A 5 r).toInt64 * (rD A r d fil (hAI h (m + 13)) f).toInt64 := by simp only [wtA, tmA, e, rD, vX, if_pos hf]
        simp (maxSteps := 3000000) (disch := omega) only [mX16_figureOf_l6, mX16_figureOf_b62, mX16_figureOf_b67, e0, e1, c1, f1, n10, qK0 L2, qR28 L2, qK12 L2, qN12 L2, cl_of, w5, p1, p2, o2, qR29 L2, qK13 L2, qN13 L2, z3, s1_of, z2, t1, ↓o_bind, o_map, ↓b_rcv, ↓b_gI, ↓b_gL, ↓b_gR, ↓b_gN, ↓b_pI, ↓b_pL, ↓b_pR, ↓b_gAI, ↓b_gAL, ↓b_gAR, ↓b_pAI, ↓b_pAL, bad_of, bad_l, Bool.false_eq_true, ↓reduceIte, Int32.reduceLT, Int32.reduceLE, Int32.reduceToNatClampNeg, Int32.reduceOfNat, Int32.reduceAdd, Int32.reduceSub, Int32.reduceMul, Nat.reduceAdd, Nat.reduceMul, Nat.reduceEqDiff]
    · have z2 : ¬ inA2 A P i j d fil r = true := z
      rw [if_neg z] at f1
      simp (maxSteps := 3000000) (disch := omega) only [mX16_figureOf_l6, mX16_figureOf_b67, e0, e1, c1, f1, s1_of, z2, ↓o_bind, o_map, ↓b_rcv, ↓b_gI, ↓b_gL, ↓b_gR, ↓b_gN, ↓b_pI, ↓b_pL, ↓b_pR, ↓b_gAI, ↓b_gAL, ↓b_gAR, ↓b_pAI, ↓b_pAL, bad_of, bad_l, Bool.false_eq_true, ↓reduceIte, Int32.reduceLT, Int32.reduceLE, Int32.reduceToNatClampNeg, Int32.reduceOfNat, Int32.reduceAdd, Int32.reduceSub, Int32.reduceMul, Nat.reduceAdd, Nat.reduceMul, Nat.reduceEqDiff]
theorem q_figure {m b fil p : Nat} {h : MHp} {A : AS} {P : Pl} {i j d : Int32} (Q : RQ m b (aN A 2) h A) (hP : RP (m + 26) h p P) (hfil : fil < 5) (W : WP (aB A) P) : ∃ h' : MHp, mX16_figureOf h m (some p) i j d (Int32.ofNat fil) = some (figA A P i j d fil, h') ∧ Rs m h h' := by
  have e2 := Q.2.2.2.2.2.1
  exact q_figure_l6 hfil W (aN A 2) FUEL 0 h 0 Q hP (by omega) (by unfold FUEL; omega)

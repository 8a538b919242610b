/-! the class's plans: cells, times, sums -/
theorem vA_in {A : AS} (W : WA A) {r fil : Nat} (hr : r < aN A 2) (hfil : fil < 5) (d : Int32) : inV (aB A) (vX A r d fil) := by
  intro f hf
  have wr := W.2.2.2.2.2.2.2.2.2.1 r hr
  obtain ⟨w1, w2, w3, w4⟩ := wr.2.2.2.2.2.2.2.2.2.2.1 f hf
  have wt := W.1.2.2.1 f hf
  have key : ∀ x : Int32, (-1) ≤ x → x ≤ Int32.ofNat (bT (aB A) f) → x = -1 ∨ ∃ u : Nat, u ≤ bT (aB A) f ∧ x = Int32.ofNat u := by
    intro x h1 h2
    by_cases e : x < 0
    · left
      rw [Int32.le_iff_toInt_le] at h1
      rw [Int32.lt_iff_toInt_lt] at e
      rw [← Int32.toInt_inj]
      have m1 : (-1 : Int32).toInt = -1 := rfl
      have m0 : (0 : Int32).toInt = 0 := rfl
      rw [m1] at h1 ⊢
      rw [m0] at e
      omega
    · right
      obtain ⟨k, rfl, hk⟩ := ex_of e
      rw [le_of (by omega) (by omega)] at h2
      exact ⟨k, h2, rfl⟩
  have z : ∀ x : Int32, 0 ≤ x → (-1) ≤ x := by
    intro x h
    rw [Int32.le_iff_toInt_le] at h ⊢
    have m1 : (-1 : Int32).toInt = -1 := rfl
    have m0 : (0 : Int32).toInt = 0 := rfl
    rw [m1]; rw [m0] at h; omega
  show vA A r f d fil = -1 ∨ _
  unfold vX
  unfold vA
  by_cases g1 : (sn (aA A 3 r) d && mb (aA A 9 r) f) = true
  · rw [if_pos g1]
    rw [Bool.and_eq_true] at g1
    have q2 : aA A 3 r ≠ -2 := by intro e; simp [sn, e] at g1
    obtain ⟨-, u1, u2⟩ := w3 q2 g1.2
    exact key _ (z _ u1) u2
  · rw [if_neg g1]
    by_cases g2 : aA A 6 (r * 6 + f) = -1
    · rw [if_pos g2]
      by_cases g3 : sn (aA A 4 r) d = true
      · rw [if_pos g3]
        have q2 : aA A 4 r ≠ -2 := by intro e; simp [sn, e] at g3
        obtain ⟨u1, u2⟩ := w4 q2 fil hfil
        exact key _ (z _ u1) u2
      · rw [if_neg g3]; exact Or.inl rfl
    · rw [if_neg g2]; exact key _ w1 w2
theorem clA2_congr {B : Bk} {P : Pl} (W : WB B) (WP0 : WP B P) {x y : Nat → Int32} (h : ∀ f : Nat, f < bF B → x f = y f) : clA2 B P x = clA2 B P y := by
  obtain ⟨w1, w2, w3, w4, w5⟩ := WP0
  have e1 : ∀ o, WO (bF B) o → dV o x = dV o y := by
    intro o ho
    cases o with
    | none => rfl
    | some f => exact h f (ho f rfl)
  have e2 : oq (pS P) (fun f => decide (x f ≠ -1)) = oq (pS P) (fun f => decide (y f ≠ -1)) := by
    cases e : pS P with
    | none => rfl
    | some f => simp only [oq_s, h f (w1 f e)]
  unfold clA2
  rw [e1 _ w2, e1 _ w3, e2, tH_congr w5 W.1 h]
theorem z1_of (h : MHp) (a : Int32) : (0 : Int32) < 0 ↔ False := by decide
theorem p_cellOf {h : MHp} {p v : Nat} {B : Bk} {P : Pl} (I : IsP h p) (C : CP h p B P) (WB0 : WB B) (W : WP B P) (hk : hK h v = 20) (hn : hN h v = 6) (V : inV B (hAI h v)) : mX7_cellOf h p (some v) = some (clA2 B P (hAI h v)) := by
  obtain ⟨i1, i2, i3, i4, i5, i6, i7, i8, i9⟩ := I
  obtain ⟨c1, c2, c3, c4, c5, c6⟩ := C
  obtain ⟨w1, w2, w3, w4, w5⟩ := W
  have hB := WB0.1
  have e1 := p_holds i9 c6 w5 hB hk hn
  have b1 := vs_le WB0 w2
  have b2 := vs_le WB0 w3
  have n10 : ¬ ((1 : Int32) = 0) := by decide
  have i91 := i9.1
  have b71 : ∀ i j : Int32, mX7_cellOf_b71 h p (some v) i j = some (if tH (pW P) (hAI h v) = true then i * Int32.ofNat (vs B (pI2 P)) + j else -1) := by
    intro i j
    by_cases t : tH (pW P) (hAI h v) = true
    · simp (disch := omega) only [mX7_cellOf_b71, mX7_cellAt, i1, i2, i91, e1, t, n10, c5, o_bind, o_map, b_rcv, b_gI, b_gL, b_gR, b_gN, b_pI, b_pL, b_pR, b_gAI, b_gAL, b_gAR, b_pAI, b_pAL, bad_of, bad_l, Bool.false_eq_true, ↓reduceIte, Int32.reduceLT, Int32.reduceLE, Int32.reduceToNatClampNeg, Int32.reduceOfNat, Int32.reduceAdd, Int32.reduceSub, Int32.reduceMul, Nat.reduceAdd, Nat.reduceMul, Nat.reduceEqDiff]
    · simp (disch := omega) only [mX7_cellOf_b71, mX7_cellAt, i1, i2, i91, e1, t, o_bind, o_map, b_rcv, b_gI, b_gL, b_gR, b_gN, b_pI, b_pL, b_pR, b_gAI, b_gAL, b_gAR, b_pAI, b_pAL, bad_of, bad_l, Bool.false_eq_true, ↓reduceIte, Int32.reduceLT, Int32.reduceLE, Int32.reduceToNatClampNeg, Int32.reduceOfNat, Int32.reduceAdd, Int32.reduceSub, Int32.reduceMul, Nat.reduceAdd, Nat.reduceMul, Nat.reduceEqDiff]
  have hcell : ∀ i j : Int32, (i = -1 ∨ ∃ u : Nat, u < vs B (pI1 P) ∧ i = Int32.ofNat u) → (j = -1 ∨ ∃ u : Nat, u < vs B (pI2 P) ∧ j = Int32.ofNat u) → mX7_hasCell h p i j = some (if i = -1 ∨ j = -1 then 0 else 1) := by
    intro i j hi hj
    have m1 : (-1 : Int32) < 0 := by decide
    rcases hi with rfl | ⟨u, hu, rfl⟩
    · simp (disch := omega) only [mX7_hasCell, m1, o_bind, o_map, b_rcv, b_gI, b_gL, b_gR, b_gN, b_pI, b_pL, b_pR, b_gAI, b_gAL, b_gAR, b_pAI, b_pAL, bad_of, bad_l, Bool.false_eq_true, ↓reduceIte, Int32.reduceLT, Int32.reduceLE, Int32.reduceToNatClampNeg, Int32.reduceOfNat, Int32.reduceAdd, Int32.reduceSub, Int32.reduceMul, Nat.reduceAdd, Nat.reduceMul, Nat.reduceEqDiff]
      simp
    · have a1 := nm_of (k := u) (by omega)
      have a2 : ¬ Int32.ofNat u < 0 := by rw [nn_of (by omega)]; exact not_false
      have a3 : ¬ Int32.ofNat (vs B (pI1 P)) ≤ Int32.ofNat u := by rw [le_of (by omega) (by omega)]; omega
      rcases hj with rfl | ⟨w, hw, rfl⟩
      · simp (disch := omega) only [mX7_hasCell, m1, a2, i1, c4, a3, o_bind, o_map, b_rcv, b_gI, b_gL, b_gR, b_gN, b_pI, b_pL, b_pR, b_gAI, b_gAL, b_gAR, b_pAI, b_pAL, bad_of, bad_l, Bool.false_eq_true, ↓reduceIte, Int32.reduceLT, Int32.reduceLE, Int32.reduceToNatClampNeg, Int32.reduceOfNat, Int32.reduceAdd, Int32.reduceSub, Int32.reduceMul, Nat.reduceAdd, Nat.reduceMul, Nat.reduceEqDiff]
        simp
      · have a4 := nm_of (k := w) (by omega)
        have a5 : ¬ Int32.ofNat w < 0 := by rw [nn_of (by omega)]; exact not_false
        have a6 : ¬ Int32.ofNat (vs B (pI2 P)) ≤ Int32.ofNat w := by rw [le_of (by omega) (by omega)]; omega
        simp (disch := omega) only [mX7_hasCell, a2, i1, c4, a3, a5, c5, a6, o_bind, o_map, b_rcv, b_gI, b_gL, b_gR, b_gN, b_pI, b_pL, b_pR, b_gAI, b_gAL, b_gAR, b_pAI, b_pAL, bad_of, bad_l, Bool.false_eq_true, ↓reduceIte, Int32.reduceLT, Int32.reduceLE, Int32.reduceToNatClampNeg, Int32.reduceOfNat, Int32.reduceAdd, Int32.reduceSub, Int32.reduceMul, Nat.reduceAdd, Nat.reduceMul, Nat.reduceEqDiff]
        simp only [a1, a4, or_self, if_false]
  have b41 : ∀ i j : Int32, (i = -1 ∨ ∃ u : Nat, u < vs B (pI1 P) ∧ i = Int32.ofNat u) → (j = -1 ∨ ∃ u : Nat, u < vs B (pI2 P) ∧ j = Int32.ofNat u) → mX7_cellOf_b41 h p (some v) i j = some (if i = -1 ∨ j = -1 ∨ oq (pS P) (fun f => decide (hAI h v f ≠ -1)) = false ∨ tH (pW P) (hAI h v) = false then -1 else i * Int32.ofNat (vs B (pI2 P)) + j) := by
    intro i j hi hj
    have e2 := hcell i j hi hj
    by_cases q : i = -1 ∨ j = -1
    · rw [if_pos q] at e2
      have q2 : i = -1 ∨ j = -1 ∨ oq (pS P) (fun f => decide (hAI h v f ≠ -1)) = false ∨ tH (pW P) (hAI h v) = false := by
        rcases q with q | q
        · exact Or.inl q
        · exact Or.inr (Or.inl q)
      rw [if_pos q2]
      simp (disch := omega) only [mX7_cellOf_b41, i1, e2, o_bind, o_map, b_rcv, b_gI, b_gL, b_gR, b_gN, b_pI, b_pL, b_pR, b_gAI, b_gAL, b_gAR, b_pAI, b_pAL, bad_of, bad_l, Bool.false_eq_true, ↓reduceIte, Int32.reduceLT, Int32.reduceLE, Int32.reduceToNatClampNeg, Int32.reduceOfNat, Int32.reduceAdd, Int32.reduceSub, Int32.reduceMul, Nat.reduceAdd, Nat.reduceMul, Nat.reduceEqDiff]
    · rw [if_neg q] at e2
      rw [not_or] at q
      obtain ⟨q1, q2⟩ := q
      cases e : pS P with
      | none =>
        rw [e] at c1
        have c1' : hI h p 3 = -1 := c1
        simp (disch := omega) only [mX7_cellOf_b41, i1, e2, n10, c1', b71, oq_n, q1, q2, o_bind, o_map, b_rcv, b_gI, b_gL, b_gR, b_gN, b_pI, b_pL, b_pR, b_gAI, b_gAL, b_gAR, b_pAI, b_pAL, bad_of, bad_l, Bool.false_eq_true, ↓reduceIte, Int32.reduceLT, Int32.reduceLE, Int32.reduceToNatClampNeg, Int32.reduceOfNat, Int32.reduceAdd, Int32.reduceSub, Int32.reduceMul, Nat.reduceAdd, Nat.reduceMul, Nat.reduceEqDiff]
        by_cases t : tH (pW P) (hAI h v) = true <;> simp [t]
      | some f =>
        have hf := w1 f e
        obtain ⟨o1, o2⟩ := oi_m e (by omega)
        rw [e] at o1 o2
        rw [e, o1] at c1
        rw [o1] at o2
        have e3 := p_valueIn hk hn (f := f) (by omega)
        by_cases g : hAI h v f = -1
        · simp (disch := omega) only [mX7_cellOf_b41, i1, e2, n10, c1, o2, e3, g, oq_s, q1, q2, o_bind, o_map, b_rcv, b_gI, b_gL, b_gR, b_gN, b_pI, b_pL, b_pR, b_gAI, b_gAL, b_gAR, b_pAI, b_pAL, bad_of, bad_l, Bool.false_eq_true, ↓reduceIte, Int32.reduceLT, Int32.reduceLE, Int32.reduceToNatClampNeg, Int32.reduceOfNat, Int32.reduceAdd, Int32.reduceSub, Int32.reduceMul, Nat.reduceAdd, Nat.reduceMul, Nat.reduceEqDiff]
          simp
        · simp (disch := omega) only [mX7_cellOf_b41, i1, e2, n10, c1, o2, e3, g, b71, oq_s, q1, q2, o_bind, o_map, b_rcv, b_gI, b_gL, b_gR, b_gN, b_pI, b_pL, b_pR, b_gAI, b_gAL, b_gAR, b_pAI, b_pAL, bad_of, bad_l, Bool.false_eq_true, ↓reduceIte, Int32.reduceLT, Int32.reduceLE, Int32.reduceToNatClampNeg, Int32.reduceOfNat, Int32.reduceAdd, Int32.reduceSub, Int32.reduceMul, Nat.reduceAdd, Nat.reduceMul, Nat.reduceEqDiff]
          by_cases t : tH (pW P) (hAI h v) = true <;> simp [t, g]
  have b20 : ∀ i : Int32, (i = -1 ∨ ∃ u : Nat, u < vs B (pI1 P) ∧ i = Int32.ofNat u) → mX7_cellOf_b20 h p (some v) i = mX7_cellOf_b41 h p (some v) i (dV (pI2 P) (hAI h v)) := by
    intro i hi
    cases e : pI2 P with
    | none =>
      rw [e] at c3
      have c3' : hI h p 5 = -1 := c3
      simp (disch := omega) only [mX7_cellOf_b20, i1, c3', o_bind, o_map, b_rcv, b_gI, b_gL, b_gR, b_gN, b_pI, b_pL, b_pR, b_gAI, b_gAL, b_gAR, b_pAI, b_pAL, bad_of, bad_l, Bool.false_eq_true, ↓reduceIte, Int32.reduceLT, Int32.reduceLE, Int32.reduceToNatClampNeg, Int32.reduceOfNat, Int32.reduceAdd, Int32.reduceSub, Int32.reduceMul, Nat.reduceAdd, Nat.reduceMul, Nat.reduceEqDiff]
      rfl
    | some f =>
      have hf := w3 f e
      obtain ⟨o1, o2⟩ := oi_m e (by omega)
      rw [e] at o1 o2
      rw [e, o1] at c3
      rw [o1] at o2
      have e3 := p_valueIn hk hn (f := f) (by omega)
      simp (disch := omega) only [mX7_cellOf_b20, i1, c3, o2, e3, o_bind, o_map, b_rcv, b_gI, b_gL, b_gR, b_gN, b_pI, b_pL, b_pR, b_gAI, b_gAL, b_gAR, b_pAI, b_pAL, bad_of, bad_l, Bool.false_eq_true, ↓reduceIte, Int32.reduceLT, Int32.reduceLE, Int32.reduceToNatClampNeg, Int32.reduceOfNat, Int32.reduceAdd, Int32.reduceSub, Int32.reduceMul, Nat.reduceAdd, Nat.reduceMul, Nat.reduceEqDiff]
      rfl
  have d1 := dV_in V w2
  have d2 := dV_in V w3
  have fin : mX7_cellOf h p (some v) = mX7_cellOf_b20 h p (some v) (dV (pI1 P) (hAI h v)) := by
    cases e : pI1 P with
    | none =>
      rw [e] at c2
      have c2' : hI h p 4 = -1 := c2
      simp (disch := omega) only [mX7_cellOf, i1, c2', o_bind, o_map, b_rcv, b_gI, b_gL, b_gR, b_gN, b_pI, b_pL, b_pR, b_gAI, b_gAL, b_gAR, b_pAI, b_pAL, bad_of, bad_l, Bool.false_eq_true, ↓reduceIte, Int32.reduceLT, Int32.reduceLE, Int32.reduceToNatClampNeg, Int32.reduceOfNat, Int32.reduceAdd, Int32.reduceSub, Int32.reduceMul, Nat.reduceAdd, Nat.reduceMul, Nat.reduceEqDiff]
      rfl
    | some f =>
      have hf := w2 f e
      obtain ⟨o1, o2⟩ := oi_m e (by omega)
      rw [e] at o1 o2
      rw [e, o1] at c2
      rw [o1] at o2
      have e3 := p_valueIn hk hn (f := f) (by omega)
      simp (disch := omega) only [mX7_cellOf, i1, c2, o2, e3, o_bind, o_map, b_rcv, b_gI, b_gL, b_gR, b_gN, b_pI, b_pL, b_pR, b_gAI, b_gAL, b_gAR, b_pAI, b_pAL, bad_of, bad_l, Bool.false_eq_true, ↓reduceIte, Int32.reduceLT, Int32.reduceLE, Int32.reduceToNatClampNeg, Int32.reduceOfNat, Int32.reduceAdd, Int32.reduceSub, Int32.reduceMul, Nat.reduceAdd, Nat.reduceMul, Nat.reduceEqDiff]
      rfl
  rw [fin, b20 _ d1, b41 _ _ d1 d2]
  rfl
theorem p_timesOf {h : MHp} {p v : Nat} {B : Bk} {P : Pl} (I : IsP h p) (C : CP h p B P) (WB0 : WB B) (W : WP B P) (hk : hK h v = 20) (hn : hN h v = 6) : mX7_timesOf h p (some v) = some (tmA P (hAI h v)) := by
  have i1 := I.1
  have c1 := C.1
  have hB := WB0.1
  cases e : pS P with
  | none =>
    rw [e] at c1
    have c1' : hI h p 3 = -1 := c1
    simp (disch := omega) only [mX7_timesOf, i1, c1', tmA, e, o_bind, o_map, b_rcv, b_gI, b_gL, b_gR, b_gN, b_pI, b_pL, b_pR, b_gAI, b_gAL, b_gAR, b_pAI, b_pAL, bad_of, bad_l, Bool.false_eq_true, ↓reduceIte, Int32.reduceLT, Int32.reduceLE, Int32.reduceToNatClampNeg, Int32.reduceOfNat, Int32.reduceAdd, Int32.reduceSub, Int32.reduceMul, Nat.reduceAdd, Nat.reduceMul, Nat.reduceEqDiff]
  | some f =>
    have hf := W.1 f e
    obtain ⟨o1, o2⟩ := oi_m e (by omega)
    rw [e] at o1 o2
    rw [e, o1] at c1
    rw [o1] at o2
    have e3 := p_valueIn hk hn (f := f) (by omega)
    simp (disch := omega) only [mX7_timesOf, i1, c1, o2, e3, tmA, e, o_bind, o_map, b_rcv, b_gI, b_gL, b_gR, b_gN, b_pI, b_pL, b_pR, b_gAI, b_gAL, b_gAR, b_pAI, b_pAL, bad_of, bad_l, Bool.false_eq_true, ↓reduceIte, Int32.reduceLT, Int32.reduceLE, Int32.reduceToNatClampNeg, Int32.reduceOfNat, Int32.reduceAdd, Int32.reduceSub, Int32.reduceMul, Nat.reduceAdd, Nat.reduceMul, Nat.reduceEqDiff]

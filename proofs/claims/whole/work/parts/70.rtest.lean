/-! the reference's tests, books, tables in its heap -/
def RIT (h : MHp) (t : Nat) : Prop := hK h t = 16 ∧ hR h t 1 = some (t + 1) ∧ hR h t 2 = some (t + 2) ∧ hR h t 3 = some (t + 3) ∧ hR h t 4 = some (t + 4) ∧ hK h (t + 1) = 20 ∧ hK h (t + 2) = 20 ∧ hK h (t + 3) = 20 ∧ hK h (t + 4) = 23 ∧ hN h (t + 1) = 12 ∧ hN h (t + 2) = 12 ∧ hN h (t + 3) = 12 ∧ hN h (t + 4) = 12
def RT (h : MHp) (t : Nat) (T : Ts) : Prop := RIT h t ∧ hI h t 0 = Int32.ofNat (tn T) ∧ ∀ j : Nat, j < tn T → hAI h (t + 1) j = Int32.ofNat (tF T j) ∧ hAI h (t + 2) j = tS T j ∧ (tR T j < 0 → hAI h (t + 4) j = 1 ∧ hAI h (t + 3) j = (-1) - tR T j) ∧ (¬ tR T j < 0 → hAI h (t + 4) j = 0 ∧ hAI h (t + 3) j = tR T j)
def RIB (h : MHp) (b : Nat) : Prop := hK h b = 13 ∧ hR h b 2 = some (b + 1) ∧ hR h b 3 = some (b + 2) ∧ hR h b 4 = some (b + 3) ∧ hR h b 5 = some (b + 4) ∧ hK h (b + 1) = 21 ∧ hK h (b + 2) = 20 ∧ hK h (b + 3) = 20 ∧ hK h (b + 4) = 27 ∧ hN h (b + 1) = 6 ∧ hN h (b + 2) = 6 ∧ hN h (b + 3) = 6 ∧ hN h (b + 4) = 12
/-- of the objects that come later, all from lo on -/
def RB (lo : Nat) (h : MHp) (b : Nat) (B : Bk) : Prop := RIB h b ∧ hI h b 0 = Int32.ofNat (bF B) ∧ hI h b 1 = Int32.ofNat (bN B) ∧ (∀ f : Nat, f < bF B → hAL h (b + 1) f = rwd (bM B f) ∧ hAI h (b + 2) f = Int32.ofNat (bT B f) ∧ hAI h (b + 3) f = Int32.ofNat (bC B f)) ∧ (lo ≤ b ∧ b + 5 ≤ hS h) ∧ ∀ k : Nat, k < bN B → ∃ t : Nat, hAR h (b + 4) k = some t ∧ lo ≤ t ∧ t + 5 ≤ hS h ∧ RT h t (bR B k)
def RIP (h : MHp) (p : Nat) : Prop := hK h p = 15 ∧ hR h p 4 = some (p + 1) ∧ hR h p 5 = some (p + 2) ∧ hR h p 6 = some (p + 3) ∧ hK h (p + 1) = 23 ∧ hK h (p + 2) = 21 ∧ hK h (p + 3) = 21 ∧ hN h (p + 1) = 100 ∧ hN h (p + 2) = 100 ∧ hN h (p + 3) = 100
def RP (lo : Nat) (h : MHp) (p : Nat) (P : Pl) : Prop := RIP h p ∧ hI h p 0 = oi (pS P) ∧ hI h p 1 = oi (pI1 P) ∧ hI h p 2 = oi (pI2 P) ∧ (lo ≤ p ∧ p + 4 ≤ hS h) ∧ (tn (pW P) = 0 ∧ hR h p 3 = none ∨ ∃ t : Nat, hR h p 3 = some t ∧ lo ≤ t ∧ t + 5 ≤ hS h ∧ RT h t (pW P))
def RX (h : MHp) (p : Nat) (t : Nat → Option (Int64 × Int64)) : Prop := ∀ k : Nat, k < 100 → match t k with
  | none => hAI h (p + 1) k = 0
  | some x => hAI h (p + 1) k = 1 ∧ hAL h (p + 2) k = x.1 ∧ hAL h (p + 3) k = x.2
theorem q_holds_b52 {h : MHp} {t v i : Nat} {T : Ts} (C : RT h t T) (hi : i < tn T) (W : tn T ≤ 12) (k2 : Nat → Option Nat → Int32 → Int32 → Option Int32) (a b : Int32) : mX15_holds_b52 k2 h t (some v) (Int32.ofNat i) a b = k2 t (some v) (if tO a b (tS T i) = true then 1 else 0) (Int32.ofNat (i + 1)) := by
  obtain ⟨⟨i1, i2, i3, i4, i5, i6, i7, i8, i9, i10, i11, i12, i13⟩, c1, c2⟩ := C
  obtain ⟨f1, f2, -⟩ := c2 i hi
  simp (disch := first | assumption | omega | (simp (disch := omega) only [Int32.lt_iff_toInt_lt, Int32.le_iff_toInt_le, ← Int32.toInt_inj, ti_of, Int32.reduceToInt]; omega)) only [mX15_holds_b52, mX15_holds_b118, mX15_holds_b141, mX15_holds_b142, i1, i3, i7, i11, cl_of, f2, s1_of, o_bind, o_map, b_rcv, b_gI, b_gL, b_gR, b_gN, b_pI, b_pL, b_pR, b_gAI, b_gAL, b_gAR, b_pAI, b_pAL, bad_of, bad_l, Bool.false_eq_true, ↓reduceIte, Int32.reduceLT, Int32.reduceLE, Int32.reduceToNatClampNeg, Int32.reduceOfNat, Int32.reduceAdd, Int32.reduceSub, Int32.reduceMul, Nat.reduceAdd, Nat.reduceMul, Nat.reduceEqDiff, if_pos, if_neg]
  unfold tO
  by_cases s1 : tS T i = 61
  · by_cases h1 : a = b
    · by_cases h2 : a = -1 <;> by_cases h3 : b = -1 <;> simp_all
    · simp [s1, h1]
  · by_cases s2 : tS T i = 60
    · by_cases h1 : b ≤ a
      · have h4 : ¬ a < b := fun h => Int32.not_le.mpr h h1
        simp [s2, h1, h4]
      · have h4 : a < b := Int32.not_le.mp h1
        by_cases h2 : a = -1 <;> by_cases h3 : b = -1 <;> simp [s2, h1, h2, h3, h4] <;> simp_all
    · by_cases h1 : a ≤ b
      · have h4 : ¬ b < a := fun h => Int32.not_le.mpr h h1
        simp [s1, s2, h1, h4]
      · have h4 : b < a := Int32.not_le.mp h1
        by_cases h2 : a = -1 <;> by_cases h3 : b = -1 <;> simp [s1, s2, h1, h2, h3, h4] <;> simp_all
theorem q_holds_l4 {h : MHp} {t v nf : Nat} {T : Ts} (C : RT h t T) (W : WT nf T) (hnf : nf ≤ 6) (hk : hK h v = 20) (hn : hN h v = 6) : ∀ m fu i : Nat, i + m = tn T → m < fu → mX15_holds_l4 h fu t (some v) 1 (Int32.ofNat i) = some (if allF (tP T (hAI h v)) m i = true then 1 else 0) := by
  intro m
  have C0 := C
  obtain ⟨⟨i1, i2, i3, i4, i5, i6, i7, i8, i9, i10, i11, i12, i13⟩, c1, c2⟩ := C
  have hW := W.1
  have r1 : rB 1 = some 1 := rfl
  have r0 : rB 0 = some 0 := rfl
  induction m with
  | zero =>
    intro fu i hi hf
    obtain ⟨fu, rfl⟩ : ∃ g : Nat, fu = g + 1 := ⟨fu - 1, by omega⟩
    simp (disch := first | assumption | omega | (simp (disch := omega) only [Int32.lt_iff_toInt_lt, Int32.le_iff_toInt_le, ← Int32.toInt_inj, ti_of, Int32.reduceToInt]; omega)) only [mX15_holds_l4, i1, c1, allF_0, r1, o_bind, o_map, b_rcv, b_gI, b_gL, b_gR, b_gN, b_pI, b_pL, b_pR, b_gAI, b_gAL, b_gAR, b_pAI, b_pAL, bad_of, bad_l, Bool.false_eq_true, ↓reduceIte, Int32.reduceLT, Int32.reduceLE, Int32.reduceToNatClampNeg, Int32.reduceOfNat, Int32.reduceAdd, Int32.reduceSub, Int32.reduceMul, Nat.reduceAdd, Nat.reduceMul, Nat.reduceEqDiff, if_pos, if_neg]
  | succ m ih =>
    intro fu i hi hf
    obtain ⟨fu, rfl⟩ : ∃ g : Nat, fu = g + 1 := ⟨fu - 1, by omega⟩
    obtain ⟨f1, f2, f3, f4⟩ := c2 i (by omega)
    obtain ⟨w1, w2⟩ := W.2 i (by omega)
    have ih1 := ih fu (i + 1) (by omega) (by omega)
    have e4 := fun a b => q_holds_b52 (v := v) C0 (i := i) (by omega) hW (mX15_holds_l4 h fu) a b
    have e7 : mX15_holds_l4 h fu t (some v) 0 (Int32.ofNat (i + 1)) = some 0 := by
      obtain ⟨fu, rfl⟩ : ∃ g : Nat, fu = g + 1 := ⟨fu - 1, by omega⟩
      by_cases q : tn T ≤ i + 1
      · simp (disch := first | assumption | omega | (simp (disch := omega) only [Int32.lt_iff_toInt_lt, Int32.le_iff_toInt_le, ← Int32.toInt_inj, ti_of, Int32.reduceToInt]; omega)) only [mX15_holds_l4, i1, c1, r0, o_bind, o_map, b_rcv, b_gI, b_gL, b_gR, b_gN, b_pI, b_pL, b_pR, b_gAI, b_gAL, b_gAR, b_pAI, b_pAL, bad_of, bad_l, Bool.false_eq_true, ↓reduceIte, Int32.reduceLT, Int32.reduceLE, Int32.reduceToNatClampNeg, Int32.reduceOfNat, Int32.reduceAdd, Int32.reduceSub, Int32.reduceMul, Nat.reduceAdd, Nat.reduceMul, Nat.reduceEqDiff, if_pos, if_neg]
      · simp (disch := first | assumption | omega | (simp (disch := omega) only [Int32.lt_iff_toInt_lt, Int32.le_iff_toInt_le, ← Int32.toInt_inj, ti_of, Int32.reduceToInt]; omega)) only [mX15_holds_l4, i1, c1, r0, o_bind, o_map, b_rcv, b_gI, b_gL, b_gR, b_gN, b_pI, b_pL, b_pR, b_gAI, b_gAL, b_gAR, b_pAI, b_pAL, bad_of, bad_l, Bool.false_eq_true, ↓reduceIte, Int32.reduceLT, Int32.reduceLE, Int32.reduceToNatClampNeg, Int32.reduceOfNat, Int32.reduceAdd, Int32.reduceSub, Int32.reduceMul, Nat.reduceAdd, Nat.reduceMul, Nat.reduceEqDiff, if_pos, if_neg]
    have n10 : ¬ ((1 : Int32) = 0) := by decide
    by_cases hr : tR T i < 0
    · obtain ⟨g, hg, e⟩ := w2 hr
      obtain ⟨f5, f6⟩ := f3 hr
      have e5 : (-1) - tR T i = Int32.ofNat g := by rw [e, m1_of]
      have e6 : tA (hAI h v) (tR T i) = hAI h v g := by simp only [tA, if_pos hr, e5, cl_of (show g < 2147483648 by omega)]
      rw [e5] at f6
      simp (disch := first | assumption | omega | (simp (disch := omega) only [Int32.lt_iff_toInt_lt, Int32.le_iff_toInt_le, ← Int32.toInt_inj, ti_of, Int32.reduceToInt]; omega)) only [mX15_holds_l4, i1, i2, i4, i5, i6, i8, i9, i10, i12, i13, hk, hn, c1, cl_of, f1, f5, f6, e4, n10, o_bind, o_map, b_rcv, b_gI, b_gL, b_gR, b_gN, b_pI, b_pL, b_pR, b_gAI, b_gAL, b_gAR, b_pAI, b_pAL, bad_of, bad_l, Bool.false_eq_true, ↓reduceIte, Int32.reduceLT, Int32.reduceLE, Int32.reduceToNatClampNeg, Int32.reduceOfNat, Int32.reduceAdd, Int32.reduceSub, Int32.reduceMul, Nat.reduceAdd, Nat.reduceMul, Nat.reduceEqDiff, if_pos, if_neg]
      simp only [allF_s, tP, e6, Bool.and_eq_true]
      by_cases q : tO (hAI h v (tF T i)) (hAI h v g) (tS T i) = true
      · simp only [q, if_true, ih1, true_and]
      · simp only [q, if_false, e7, false_and, Bool.false_eq_true]
    · have e6 : tA (hAI h v) (tR T i) = tR T i := by simp only [tA, if_neg hr]
      obtain ⟨f5, f6⟩ := f4 hr
      simp (disch := first | assumption | omega | (simp (disch := omega) only [Int32.lt_iff_toInt_lt, Int32.le_iff_toInt_le, ← Int32.toInt_inj, ti_of, Int32.reduceToInt]; omega)) only [mX15_holds_l4, i1, i2, i4, i5, i6, i8, i9, i10, i12, i13, hk, hn, c1, cl_of, f1, f5, f6, e4, n10, o_bind, o_map, b_rcv, b_gI, b_gL, b_gR, b_gN, b_pI, b_pL, b_pR, b_gAI, b_gAL, b_gAR, b_pAI, b_pAL, bad_of, bad_l, Bool.false_eq_true, ↓reduceIte, Int32.reduceLT, Int32.reduceLE, Int32.reduceToNatClampNeg, Int32.reduceOfNat, Int32.reduceAdd, Int32.reduceSub, Int32.reduceMul, Nat.reduceAdd, Nat.reduceMul, Nat.reduceEqDiff, if_pos, if_neg]
      simp only [allF_s, tP, e6, Bool.and_eq_true]
      by_cases q : tO (hAI h v (tF T i)) (tR T i) (tS T i) = true
      · simp only [q, if_true, ih1, true_and]
      · simp only [q, if_false, e7, false_and, Bool.false_eq_true]
theorem q_holds {h : MHp} {t v nf : Nat} {T : Ts} (C : RT h t T) (W : WT nf T) (hnf : nf ≤ 6) (hk : hK h v = 20) (hn : hN h v = 6) : mX15_holds h t (some v) = some (if tH T (hAI h v) = true then 1 else 0) := by
  have := W.1
  exact q_holds_l4 C W hnf hk hn (tn T) FUEL 0 (by omega) (by unfold FUEL; omega)
theorem q_broken_l2 {lo : Nat} {h : MHp} {b v : Nat} {B : Bk} (C : RB lo h b B) (W : WB B) (hk : hK h v = 20) (hn : hN h v = 6) : ∀ m fu i : Nat, i + m = bN B → m < fu → mX12_broken_l2 h fu b (some v) (Int32.ofNat i) = some (if lsf (fun k => tH (bR B k) (hAI h v)) m i < bN B then Int32.ofNat (lsf (fun k => tH (bR B k) (hAI h v)) m i) else -1) := by
  intro m
  obtain ⟨⟨i1, i2, i3, i4, i5, i6, i7, i8, i9, i10, i11, i12, i13⟩, c1, c2, c3, -, c4⟩ := C
  obtain ⟨w1, w2, w3, w4⟩ := W
  induction m with
  | zero =>
    intro fu i hi hf
    obtain ⟨fu, rfl⟩ : ∃ g : Nat, fu = g + 1 := ⟨fu - 1, by omega⟩
    simp (disch := first | assumption | omega | (simp (disch := omega) only [Int32.lt_iff_toInt_lt, Int32.le_iff_toInt_le, ← Int32.toInt_inj, ti_of, Int32.reduceToInt]; omega)) only [mX12_broken_l2, i1, c2, lsf_0, o_bind, o_map, b_rcv, b_gI, b_gL, b_gR, b_gN, b_pI, b_pL, b_pR, b_gAI, b_gAL, b_gAR, b_pAI, b_pAL, bad_of, bad_l, Bool.false_eq_true, ↓reduceIte, Int32.reduceLT, Int32.reduceLE, Int32.reduceToNatClampNeg, Int32.reduceOfNat, Int32.reduceAdd, Int32.reduceSub, Int32.reduceMul, Nat.reduceAdd, Nat.reduceMul, Nat.reduceEqDiff, if_pos, if_neg]
  | succ m ih =>
    intro fu i hi hf
    obtain ⟨fu, rfl⟩ : ∃ g : Nat, fu = g + 1 := ⟨fu - 1, by omega⟩
    obtain ⟨t, k1, -, -, k2⟩ := c4 i (by omega)
    have e1 := q_holds k2 (w4 i (by omega)) w1 hk hn
    have ih1 := ih fu (i + 1) (by omega) (by omega)
    have k3 := k2.1.1
    simp (disch := first | assumption | omega | (simp (disch := omega) only [Int32.lt_iff_toInt_lt, Int32.le_iff_toInt_le, ← Int32.toInt_inj, ti_of, Int32.reduceToInt]; omega)) only [mX12_broken_l2, i1, i5, i9, i13, c2, cl_of, k1, k3, e1, s1_of, ih1, lsf_s, o_bind, o_map, b_rcv, b_gI, b_gL, b_gR, b_gN, b_pI, b_pL, b_pR, b_gAI, b_gAL, b_gAR, b_pAI, b_pAL, bad_of, bad_l, Bool.false_eq_true, ↓reduceIte, Int32.reduceLT, Int32.reduceLE, Int32.reduceToNatClampNeg, Int32.reduceOfNat, Int32.reduceAdd, Int32.reduceSub, Int32.reduceMul, Nat.reduceAdd, Nat.reduceMul, Nat.reduceEqDiff, if_pos, if_neg]
    by_cases q : tH (bR B i) (hAI h v) = true
    · simp only [q, if_true]
      simp (disch := first | assumption | omega | (simp (disch := omega) only [Int32.lt_iff_toInt_lt, Int32.le_iff_toInt_le, ← Int32.toInt_inj, ti_of, Int32.reduceToInt]; omega)) only [i1, o_bind, o_map, b_rcv, b_gI, b_gL, b_gR, b_gN, b_pI, b_pL, b_pR, b_gAI, b_gAL, b_gAR, b_pAI, b_pAL, bad_of, bad_l, Bool.false_eq_true, ↓reduceIte, Int32.reduceLT, Int32.reduceLE, Int32.reduceToNatClampNeg, Int32.reduceOfNat, Int32.reduceAdd, Int32.reduceSub, Int32.reduceMul, Nat.reduceAdd, Nat.reduceMul, Nat.reduceEqDiff, if_pos, if_neg]
    · simp [q]
theorem q_broken {lo : Nat} {h : MHp} {b v : Nat} {B : Bk} (C : RB lo h b B) (W : WB B) (hk : hK h v = 20) (hn : hN h v = 6) : mX12_broken h b (some v) = some (if bB B (hAI h v) < bN B then Int32.ofNat (bB B (hAI h v)) else -1) := by
  have := W.2.1
  exact q_broken_l2 C W hk hn (bN B) FUEL 0 (by omega) (by unfold FUEL; omega)

/-! the class's tests and books: what their methods answer -/
theorem p_valueIn {h : MHp} {v : Nat} (hk : hK h v = 20) (hn : hN h v = 6) {f : Nat} (hf : f < 6) : mX11_valueIn h (some v) (Int32.ofNat f) = some (hAI h v f) := by
  simp (disch := first | assumption | omega | (simp (disch := omega) only [Int32.lt_iff_toInt_lt, Int32.le_iff_toInt_le, ← Int32.toInt_inj, ti_of, Int32.reduceToInt]; omega)) only [mX11_valueIn, hk, hn, cl_of, o_bind, o_map, b_rcv, b_gI, b_gL, b_gR, b_gN, b_pI, b_pL, b_pR, b_gAI, b_gAL, b_gAR, b_pAI, b_pAL, bad_of, bad_l, Bool.false_eq_true, ↓reduceIte, Int32.reduceLT, Int32.reduceLE, Int32.reduceToNatClampNeg, Int32.reduceOfNat, Int32.reduceAdd, Int32.reduceSub, Int32.reduceMul, Nat.reduceAdd, Nat.reduceMul, Nat.reduceEqDiff, if_pos, if_neg]
theorem p_holds_b57 {h : MHp} {t v i : Nat} {T : Ts} (I : IsT h t) (C : CT h t T) (hi : i < tn T) (W : tn T ≤ 12) (k2 : Nat → Option Nat → Int32 → Option Int32) (a b : Int32) : mX10_holds_b57 k2 h t (some v) (Int32.ofNat i) a b = if tO a b (tS T i) = true then k2 t (some v) (Int32.ofNat (i + 1)) else some 0 := by
  obtain ⟨i1, i2, i3, i4, i5, i6, i7, i8, i9, i10⟩ := I
  obtain ⟨c1, c2, -⟩ := C
  obtain ⟨f1, f2, f3⟩ := c2 i hi
  have e1 : (61 : Int32) = 60 ↔ False := by decide
  simp (disch := first | assumption | omega | (simp (disch := omega) only [Int32.lt_iff_toInt_lt, Int32.le_iff_toInt_le, ← Int32.toInt_inj, ti_of, Int32.reduceToInt]; omega)) only [mX10_holds_b57, mX10_holds_b120, i1, i3, i6, i9, cl_of, f2, s1_of, o_bind, o_map, b_rcv, b_gI, b_gL, b_gR, b_gN, b_pI, b_pL, b_pR, b_gAI, b_gAL, b_gAR, b_pAI, b_pAL, bad_of, bad_l, Bool.false_eq_true, ↓reduceIte, Int32.reduceLT, Int32.reduceLE, Int32.reduceToNatClampNeg, Int32.reduceOfNat, Int32.reduceAdd, Int32.reduceSub, Int32.reduceMul, Nat.reduceAdd, Nat.reduceMul, Nat.reduceEqDiff, if_pos, if_neg]
  unfold tO
  by_cases s1 : tS T i = 61
  · by_cases h1 : a = b
    · by_cases h2 : a = -1 <;> by_cases h3 : b = -1 <;> simp_all
    · simp [s1, h1]
  · by_cases s2 : tS T i = 60
    · by_cases h1 : b ≤ a
      · have h4 : ¬ a < b := fun h => Int32.not_le.mpr h h1
        simp [s2, h1, h4]
      · have h4 : a < b := Int32.not_le.mp h1
        by_cases h2 : a = -1 <;> by_cases h3 : b = -1 <;> simp [s2, h1, h2, h3, h4] <;> simp_all
    · by_cases h1 : a ≤ b
      · have h4 : ¬ b < a := fun h => Int32.not_le.mpr h h1
        simp [s1, s2, h1, h4]
      · have h4 : b < a := Int32.not_le.mp h1
        by_cases h2 : a = -1 <;> by_cases h3 : b = -1 <;> simp [s1, s2, h1, h2, h3, h4] <;> simp_all
theorem p_holds_l2 {h : MHp} {t v nf : Nat} {T : Ts} (I : IsT h t) (C : CT h t T) (W : WT nf T) (hnf : nf ≤ 6) (hk : hK h v = 20) (hn : hN h v = 6) : ∀ m fu i : Nat, i + m = tn T → m < fu → mX10_holds_l2 h fu t (some v) (Int32.ofNat i) = some (if allF (tP T (hAI h v)) m i = true then 1 else 0) := by
  intro m
  have I0 := I
  have C0 := C
  obtain ⟨i1, i2, i3, i4, i5, i6, i7, i8, i9, i10⟩ := I
  obtain ⟨c1, c2, -⟩ := C
  have hW := W.1
  induction m with
  | zero =>
    intro fu i hi hf
    obtain ⟨fu, rfl⟩ : ∃ g : Nat, fu = g + 1 := ⟨fu - 1, by omega⟩
    simp (disch := first | assumption | omega | (simp (disch := omega) only [Int32.lt_iff_toInt_lt, Int32.le_iff_toInt_le, ← Int32.toInt_inj, ti_of, Int32.reduceToInt]; omega)) only [mX10_holds_l2, i1, c1, allF_0, o_bind, o_map, b_rcv, b_gI, b_gL, b_gR, b_gN, b_pI, b_pL, b_pR, b_gAI, b_gAL, b_gAR, b_pAI, b_pAL, bad_of, bad_l, Bool.false_eq_true, ↓reduceIte, Int32.reduceLT, Int32.reduceLE, Int32.reduceToNatClampNeg, Int32.reduceOfNat, Int32.reduceAdd, Int32.reduceSub, Int32.reduceMul, Nat.reduceAdd, Nat.reduceMul, Nat.reduceEqDiff, if_pos, if_neg]
  | succ m ih =>
    intro fu i hi hf
    obtain ⟨fu, rfl⟩ : ∃ g : Nat, fu = g + 1 := ⟨fu - 1, by omega⟩
    obtain ⟨f1, f2, f3⟩ := c2 i (by omega)
    obtain ⟨w1, w2⟩ := W.2 i (by omega)
    have e1 := p_valueIn hk hn (f := tF T i) (by omega)
    have ih1 := ih fu (i + 1) (by omega) (by omega)
    have e4 := fun a b => p_holds_b57 (v := v) I0 C0 (i := i) (by omega) hW (mX10_holds_l2 h fu) a b
    by_cases hr : tR T i < 0
    · obtain ⟨g, hg, e⟩ := w2 hr
      have e3 := p_valueIn hk hn (f := g) (by omega)
      have e5 : (-1) - tR T i = Int32.ofNat g := by rw [e, m1_of]
      have e6 : tA (hAI h v) (tR T i) = hAI h v g := by simp only [tA, if_pos hr, e5, cl_of (show g < 2147483648 by omega)]
      simp (disch := first | assumption | omega | (simp (disch := omega) only [Int32.lt_iff_toInt_lt, Int32.le_iff_toInt_le, ← Int32.toInt_inj, ti_of, Int32.reduceToInt]; omega)) only [mX10_holds_l2, i1, i2, i4, i5, i7, i8, i10, c1, cl_of, f1, f3, e1, e5, e3, e4, ih1, o_bind, o_map, b_rcv, b_gI, b_gL, b_gR, b_gN, b_pI, b_pL, b_pR, b_gAI, b_gAL, b_gAR, b_pAI, b_pAL, bad_of, bad_l, Bool.false_eq_true, ↓reduceIte, Int32.reduceLT, Int32.reduceLE, Int32.reduceToNatClampNeg, Int32.reduceOfNat, Int32.reduceAdd, Int32.reduceSub, Int32.reduceMul, Nat.reduceAdd, Nat.reduceMul, Nat.reduceEqDiff, if_pos, if_neg]
      simp only [allF_s, tP, e6, Bool.and_eq_true]
      by_cases q : tO (hAI h v (tF T i)) (hAI h v g) (tS T i) = true <;> simp [q]
    · have e6 : tA (hAI h v) (tR T i) = tR T i := by simp only [tA, if_neg hr]
      simp (disch := first | assumption | omega | (simp (disch := omega) only [Int32.lt_iff_toInt_lt, Int32.le_iff_toInt_le, ← Int32.toInt_inj, ti_of, Int32.reduceToInt]; omega)) only [mX10_holds_l2, i1, i2, i4, i5, i7, i8, i10, c1, cl_of, f1, f3, e1, e4, ih1, o_bind, o_map, b_rcv, b_gI, b_gL, b_gR, b_gN, b_pI, b_pL, b_pR, b_gAI, b_gAL, b_gAR, b_pAI, b_pAL, bad_of, bad_l, Bool.false_eq_true, ↓reduceIte, Int32.reduceLT, Int32.reduceLE, Int32.reduceToNatClampNeg, Int32.reduceOfNat, Int32.reduceAdd, Int32.reduceSub, Int32.reduceMul, Nat.reduceAdd, Nat.reduceMul, Nat.reduceEqDiff, if_pos, if_neg]
      simp only [allF_s, tP, e6, Bool.and_eq_true]
      by_cases q : tO (hAI h v (tF T i)) (tR T i) (tS T i) = true <;> simp [q]
theorem p_holds {h : MHp} {t v nf : Nat} {T : Ts} (I : IsT h t) (C : CT h t T) (W : WT nf T) (hnf : nf ≤ 6) (hk : hK h v = 20) (hn : hN h v = 6) : mX10_holds h t (some v) = some (if tH T (hAI h v) = true then 1 else 0) := by
  have := W.1
  exact p_holds_l2 I C W hnf hk hn (tn T) FUEL 0 (by omega) (by unfold FUEL; omega)
theorem p_rule_l2 {h : MHp} {b v : Nat} {B : Bk} (I : IsB h b) (C : CB h b B) (W : WB B) (hk : hK h v = 20) (hn : hN h v = 6) : ∀ m fu i : Nat, i + m = bN B → m < fu → mX1_ruleThatHolds_l2 h fu b (some v) (Int32.ofNat i) = some (if lsf (fun k => tH (bR B k) (hAI h v)) m i < bN B then Int32.ofNat (lsf (fun k => tH (bR B k) (hAI h v)) m i) else -2) := by
  intro m
  obtain ⟨i1, i2, i3, i4, i5, i6, i7, i8, i9, i10, i11, i12, i13, i14⟩ := I
  obtain ⟨c1, c2, c3, c4⟩ := C
  obtain ⟨w1, w2, w3, w4⟩ := W
  induction m with
  | zero =>
    intro fu i hi hf
    obtain ⟨fu, rfl⟩ : ∃ g : Nat, fu = g + 1 := ⟨fu - 1, by omega⟩
    simp (disch := first | assumption | omega | (simp (disch := omega) only [Int32.lt_iff_toInt_lt, Int32.le_iff_toInt_le, ← Int32.toInt_inj, ti_of, Int32.reduceToInt]; omega)) only [mX1_ruleThatHolds_l2, i1, c2, lsf_0, o_bind, o_map, b_rcv, b_gI, b_gL, b_gR, b_gN, b_pI, b_pL, b_pR, b_gAI, b_gAL, b_gAR, b_pAI, b_pAL, bad_of, bad_l, Bool.false_eq_true, ↓reduceIte, Int32.reduceLT, Int32.reduceLE, Int32.reduceToNatClampNeg, Int32.reduceOfNat, Int32.reduceAdd, Int32.reduceSub, Int32.reduceMul, Nat.reduceAdd, Nat.reduceMul, Nat.reduceEqDiff, if_pos, if_neg]
  | succ m ih =>
    intro fu i hi hf
    obtain ⟨fu, rfl⟩ : ∃ g : Nat, fu = g + 1 := ⟨fu - 1, by omega⟩
    obtain ⟨k1, k2⟩ := i14 i (by omega)
    have e1 := p_holds k2 (c4 i (by omega)) (w4 i (by omega)) w1 hk hn
    have ih1 := ih fu (i + 1) (by omega) (by omega)
    have k3 := k2.1
    simp (disch := first | assumption | omega | (simp (disch := omega) only [Int32.lt_iff_toInt_lt, Int32.le_iff_toInt_le, ← Int32.toInt_inj, ti_of, Int32.reduceToInt]; omega)) only [mX1_ruleThatHolds_l2, i1, i5, i9, i13, c2, cl_of, k1, k3, e1, s1_of, ih1, lsf_s, o_bind, o_map, b_rcv, b_gI, b_gL, b_gR, b_gN, b_pI, b_pL, b_pR, b_gAI, b_gAL, b_gAR, b_pAI, b_pAL, bad_of, bad_l, Bool.false_eq_true, ↓reduceIte, Int32.reduceLT, Int32.reduceLE, Int32.reduceToNatClampNeg, Int32.reduceOfNat, Int32.reduceAdd, Int32.reduceSub, Int32.reduceMul, Nat.reduceAdd, Nat.reduceMul, Nat.reduceEqDiff, if_pos, if_neg]
    by_cases q : tH (bR B i) (hAI h v) = true
    · simp only [q, if_true]
      simp (disch := first | assumption | omega | (simp (disch := omega) only [Int32.lt_iff_toInt_lt, Int32.le_iff_toInt_le, ← Int32.toInt_inj, ti_of, Int32.reduceToInt]; omega)) only [i1, o_bind, o_map, b_rcv, b_gI, b_gL, b_gR, b_gN, b_pI, b_pL, b_pR, b_gAI, b_gAL, b_gAR, b_pAI, b_pAL, bad_of, bad_l, Bool.false_eq_true, ↓reduceIte, Int32.reduceLT, Int32.reduceLE, Int32.reduceToNatClampNeg, Int32.reduceOfNat, Int32.reduceAdd, Int32.reduceSub, Int32.reduceMul, Nat.reduceAdd, Nat.reduceMul, Nat.reduceEqDiff, if_pos, if_neg]
    · simp [q]
theorem p_rule {h : MHp} {b v : Nat} {B : Bk} (I : IsB h b) (C : CB h b B) (W : WB B) (hk : hK h v = 20) (hn : hN h v = 6) : mX1_ruleThatHolds h b (some v) = some (if bB B (hAI h v) < bN B then Int32.ofNat (bB B (hAI h v)) else -2) := by
  have := W.2.1
  exact p_rule_l2 I C W hk hn (bN B) FUEL 0 (by omega) (by unfold FUEL; omega)

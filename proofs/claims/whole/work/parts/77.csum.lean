/-! the class's sums over rows -/
theorem CR.plan {c k : Nat} {h : MHp} {A : AS} (C : CR c h A) (W : WA A) (hk : k < aN A 1) : IsP h (c + 120 + 7 * k) ∧ hAR h (c + 119) k = some (c + 120 + 7 * k) ∧ CP h (c + 120 + 7 * k) (aB A) (aP A k) ∧ CX h (c + 120 + 7 * k) (aT A k) ∧ WP (aB A) (aP A k) := by
  obtain ⟨⟨b, s, L, -⟩, -, -, -, -, -, w⟩ := C
  have h8 := W.2.2.1
  obtain ⟨p1, p2⟩ := L.p k (by omega)
  obtain ⟨w1, w2⟩ := w k hk
  exact ⟨p1, p2, w1, w2, W.2.2.2.2.2.1 k hk⟩
theorem tmA_congr {B : Bk} {P : Pl} (W : WP B P) {x y : Nat → Int32} (h : ∀ f : Nat, f < bF B → x f = y f) : tmA P x = tmA P y := by
  unfold tmA
  cases e : pS P with
  | none => rfl
  | some f => exact h f (W.1 f e)
theorem p_sumOf_l6 {c k fil i j : Nat} {A : AS} {d : Int32} (W : WA A) (hk : k < aN A 1) (hfil : fil < 5) (hi : i < vs (aB A) (pI1 (aP A k))) (hj : j < vs (aB A) (pI2 (aP A k))) : ∀ (q fu r : Nat) (h : MHp) (a : Int64), CR c h A → r + q = aN A 2 → q < fu → ∃ h' : MHp, mX2_sumOf_l6 fu h (c + 192) (some (c + 120 + 7 * k)) (Int32.ofNat (i * vs (aB A) (pI2 (aP A k)) + j)) d (Int32.ofNat fil) a (Int32.ofNat r) = some (sumF (inA2 A (aP A k) (Int32.ofNat i) (Int32.ofNat j) d fil) (fun r => wtA A (aP A k) r d fil) q r a, h') ∧ Sc c h h' := by
  intro q
  have h60 := W.2.2.2.1
  induction q with
  | zero =>
    intro fu r h a C hr hfu
    obtain ⟨fu, rfl⟩ : ∃ g : Nat, fu = g + 1 := ⟨fu - 1, by omega⟩
    refine ⟨h, ?_, Sc.rf⟩
    obtain ⟨b, G⟩ := C.rg W
    have L := G.1
    have e1 := G.2.2.2.2.2.1
    have e2 : Int32.ofNat (aN A 2) ≤ Int32.ofNat r := by rw [le_of (by omega) (by omega)]; omega
    rw [mX2_sumOf_l6, b_gR, if_pos (lK192 L), lR192_0 L, b_gI, if_pos (lK56 L), e1, if_pos e2, sumF_0]
  | succ q ih =>
    intro fu r h a C hr hfu
    obtain ⟨fu, rfl⟩ : ∃ g : Nat, fu = g + 1 := ⟨fu - 1, by omega⟩
    obtain ⟨b, G⟩ := C.rg W
    have L := G.1
    have e1 := G.2.2.2.2.2.1
    have e2 : ¬ Int32.ofNat (aN A 2) ≤ Int32.ofNat r := by rw [le_of (by omega) (by omega)]; omega
    have e3 : ¬ (60 : Int32) ≤ Int32.ofNat r := by rw [show (60 : Int32) = Int32.ofNat 60 from rfl, le_of (by omega) (by omega)]; omega
    obtain ⟨h2, f1, S, f2⟩ := p_looksAt C W (show r < aN A 2 by omega) hfil d
    have C2 := C.sc W S
    obtain ⟨b2, G2⟩ := C2.rg W
    have L2 := G2.1
    obtain ⟨p1, p2, p3, p4, p5⟩ := C2.plan W hk
    obtain ⟨h3, g1, S2⟩ := ih fu (r + 1) h2 (if inA2 A (aP A k) (Int32.ofNat i) (Int32.ofNat j) d fil r = true then a + wtA A (aP A k) r d fil else a) C2 (by omega) (by omega)
    refine ⟨h3, ?_, S.tr S2⟩
    rw [sumF_s, ← g1]
    have n10 : ¬ ((1 : Int32) = 0) := by decide
    by_cases z : okA A r d fil = true
    · rw [if_pos z] at f1
      have xe := f2 z
      have V : inV (aB A) (hAI h2 (c + 193)) := fun f hf => by rw [xe f hf]; exact vA_in W (show r < aN A 2 by omega) hfil d f hf
      have e5 := p_cellOf p1 p3 W.1 p5 (lK193 L2) (lN193 L2) V
      have e6 := p_timesOf p1 p3 W.1 p5 (lK193 L2) (lN193 L2)
      rw [tmA_congr p5 xe] at e6
      have e7 := clA2_iff W.1 p5 V hi hj
      rw [inP_congr p5 W.1.1 xe] at e7
      have w5 : hAI h2 (c + 114) = aA A 5 := C2.2.2.1.2.2.2.2.2.2.2.2.2.1
      have p11 := p1.1
      by_cases y : inP (aP A k) (vX A r d fil) (Int32.ofNat i) (Int32.ofNat j) = true
      · have e8 := e7.mpr y
        have z2 : inA2 A (aP A k) (Int32.ofNat i) (Int32.ofNat j) d fil r = true := by unfold inA2; rw [z, y]; rfl
        rw [e8] at e5
        simp (disch := omega) only [mX2_sumOf_l6, mX2_sumOf_b75, lK192 L, lR192_0 L, lK56 L, e1, e2, e3, f1, n10, lK192 L2, lR192_1 L2, p11, e5, lR192_0 L2, lK56 L2, lR56_4 L2, lK114 L2, lN114 L2, cl_of, w5, e6, s1_of, z2, wtA, o_bind, o_map, b_rcv, b_gI, b_gL, b_gR, b_gN, b_pI, b_pL, b_pR, b_gAI, b_gAL, b_gAR, b_pAI, b_pAL, bad_of, bad_l, Bool.false_eq_true, ↓reduceIte, Int32.reduceLT, Int32.reduceLE, Int32.reduceToNatClampNeg, Int32.reduceOfNat, Int32.reduceAdd, Int32.reduceSub, Int32.reduceMul, Nat.reduceAdd, Nat.reduceMul, Nat.reduceEqDiff]
      · have e8 : ¬ (clA2 (aB A) (aP A k) (hAI h2 (c + 193)) = Int32.ofNat (i * vs (aB A) (pI2 (aP A k)) + j)) := fun e => y (e7.mp e)
        have z2 : ¬ inA2 A (aP A k) (Int32.ofNat i) (Int32.ofNat j) d fil r = true := by unfold inA2; rw [z, Bool.true_and]; exact y
        simp (disch := omega) only [mX2_sumOf_l6, mX2_sumOf_b75, lK192 L, lR192_0 L, lK56 L, e1, e2, e3, f1, n10, lK192 L2, lR192_1 L2, p11, e5, e8, s1_of, z2, o_bind, o_map, b_rcv, b_gI, b_gL, b_gR, b_gN, b_pI, b_pL, b_pR, b_gAI, b_gAL, b_gAR, b_pAI, b_pAL, bad_of, bad_l, Bool.false_eq_true, ↓reduceIte, Int32.reduceLT, Int32.reduceLE, Int32.reduceToNatClampNeg, Int32.reduceOfNat, Int32.reduceAdd, Int32.reduceSub, Int32.reduceMul, Nat.reduceAdd, Nat.reduceMul, Nat.reduceEqDiff]
    · rw [if_neg z] at f1
      have z2 : ¬ inA2 A (aP A k) (Int32.ofNat i) (Int32.ofNat j) d fil r = true := by
        unfold inA2; rw [Bool.and_eq_true]; intro hh; exact z hh.1
      simp (disch := omega) only [mX2_sumOf_l6, mX2_sumOf_b75, lK192 L, lR192_0 L, lK56 L, e1, e2, e3, f1, s1_of, z2, o_bind, o_map, b_rcv, b_gI, b_gL, b_gR, b_gN, b_pI, b_pL, b_pR, b_gAI, b_gAL, b_gAR, b_pAI, b_pAL, bad_of, bad_l, Bool.false_eq_true, ↓reduceIte, Int32.reduceLT, Int32.reduceLE, Int32.reduceToNatClampNeg, Int32.reduceOfNat, Int32.reduceAdd, Int32.reduceSub, Int32.reduceMul, Nat.reduceAdd, Nat.reduceMul, Nat.reduceEqDiff]
theorem p_sumOf {c k fil i j : Nat} {h : MHp} {A : AS} {d : Int32} (C : CR c h A) (W : WA A) (hk : k < aN A 1) (hfil : fil < 5) (hi : i < vs (aB A) (pI1 (aP A k))) (hj : j < vs (aB A) (pI2 (aP A k))) : ∃ h' : MHp, mX2_sumOf h (c + 192) (some (c + 120 + 7 * k)) (Int32.ofNat (i * vs (aB A) (pI2 (aP A k)) + j)) d (Int32.ofNat fil) = some (figA A (aP A k) (Int32.ofNat i) (Int32.ofNat j) d fil, h') ∧ Sc c h h' := by
  have h60 := W.2.2.2.1
  exact p_sumOf_l6 W hk hfil hi hj (aN A 2) FUEL 0 h 0 C (by omega) (by unfold FUEL; omega)

/-! agreed: the class -/
theorem p_looksAt3 {c r fil : Nat} {h : MHp} {A : AS} (C : CR c h A) (W : WA A) (hr : r < aN A 2) (hfil : fil < 5) (d : Int32) : ∃ h' : MHp, mX2_looksAt h (c + 192) (Int32.ofNat r) d (Int32.ofNat fil) = some (if okA A r d fil = true then 1 else 0, h') ∧ Sc c h h' ∧ (okA A r d fil = true → ∀ f : Nat, f < bF (aB A) → hAI h' (c + 193) f = vX A r d fil f) ∧ hI h' = hI h ∧ hL h' = hL h ∧ hAL h' = hAL h ∧ ∀ a : Nat, a ≠ c + 193 → hAI h' a = hAI h a := by
  obtain ⟨b, G⟩ := C.rg W
  have L := G.1
  have e0 := p_isThere (A := A) L G.2.2.2.2.2.1 G.2.2.2.2.2.2 C.2.2.1.2.2.2.2.2.1 C.2.2.1.2.2.2.2.2.2.1 hr d
  by_cases g1 : thA A r d = true
  · have e1 := g_load G hr hfil d (k := 193) (by omega)
    have S : Sc c h (sAI h (c + 193) (lD c h (bF (aB A)) r d fil (hAI h (c + 193)))) := Sc.AI 193 _ (by decide)
    have hx : hAI (sAI h (c + 193) (lD c h (bF (aB A)) r d fil (hAI h (c + 193)))) (c + 193) = lD c h (bF (aB A)) r d fil (hAI h (c + 193)) := by rw [e_sAI, if_pos rfl]
    have G2 := G.sc S
    have i0 : hI (sAI h (c + 193) (lD c h (bF (aB A)) r d fil (hAI h (c + 193)))) = hI h ∧ hL (sAI h (c + 193) (lD c h (bF (aB A)) r d fil (hAI h (c + 193)))) = hL h ∧ hAL (sAI h (c + 193) (lD c h (bF (aB A)) r d fil (hAI h (c + 193)))) = hAL h ∧ ∀ a : Nat, a ≠ c + 193 → hAI (sAI h (c + 193) (lD c h (bF (aB A)) r d fil (hAI h (c + 193)))) a = hAI h a := ⟨e_I_sAI _ _ _, e_L_sAI _ _ _, e_AL_sAI _ _ _, fun a ha => va_ne _ _ ha⟩
    revert e1 S hx G2 i0
    generalize sAI h (c + 193) (lD c h (bF (aB A)) r d fil (hAI h (c + 193))) = h2
    intro e1 S hx G2 i0
    have L2 := G2.1
    have e3 := g_rule G2 (k := c + 193) (lK193 L2) (lN193 L2)
    have xe : ∀ f : Nat, f < bF (aB A) → lD c h (bF (aB A)) r d fil (hAI h (c + 193)) f = vX A r d fil f := fun f hf => by
      have := W.1.1
      simp only [lD, if_pos (show f < 6 by omega)]
      exact lV_vX C W hr hf hfil (thA_b g1)
    rw [hx, bB_congr W.1 xe] at e3
    have j1 := G2.2.1
    have j2 := G2.ib.1
    have n10 : ¬ ((1 : Int32) = 0) := by decide
    refine ⟨h2, ?_, S, fun _ f hf => by rw [hx]; exact xe f hf, i0⟩
    have hb := bB_le (aB A) (vX A r d fil)
    have hb2 := W.1.2.1
    by_cases g2 : bB (aB A) (vX A r d fil) = bN (aB A)
    · have g3 : ¬ (bB (aB A) (vX A r d fil) < bN (aB A)) := by omega
      rw [if_neg g3] at e3
      simp (maxSteps := 3000000) (disch := omega) only [mX2_looksAt, lK192 L, lR192_0 L, lR192_1 L, lK56 L, e0, g1, n10, e1, lK192 L2, lR192_0 L2, lR192_1 L2, lK56 L2, j1, j2, e3, ↓o_bind, o_map, ↓b_rcv, ↓b_gI, ↓b_gL, ↓b_gR, ↓b_gN, ↓b_pI, ↓b_pL, ↓b_pR, ↓b_gAI, ↓b_gAL, ↓b_gAR, ↓b_pAI, ↓b_pAL, bad_of, bad_l, Bool.false_eq_true, ↓reduceIte, Int32.reduceLT, Int32.reduceLE, Int32.reduceToNatClampNeg, Int32.reduceOfNat, Int32.reduceAdd, Int32.reduceSub, Int32.reduceMul, Nat.reduceAdd, Nat.reduceMul, Nat.reduceEqDiff]
      simp [okA, g1, g2]
    · have g3 : bB (aB A) (vX A r d fil) < bN (aB A) := by omega
      rw [if_pos g3] at e3
      have n2 : ¬ (Int32.ofNat (bB (aB A) (vX A r d fil)) = -2) := by
        rw [← Int32.toInt_inj, ti_of (by omega)]
        have : (-2 : Int32).toInt = -2 := rfl
        rw [this]; omega
      simp (maxSteps := 3000000) (disch := omega) only [mX2_looksAt, lK192 L, lR192_0 L, lR192_1 L, lK56 L, e0, g1, n10, e1, lK192 L2, lR192_0 L2, lR192_1 L2, lK56 L2, j1, j2, e3, n2, ↓o_bind, o_map, ↓b_rcv, ↓b_gI, ↓b_gL, ↓b_gR, ↓b_gN, ↓b_pI, ↓b_pL, ↓b_pR, ↓b_gAI, ↓b_gAL, ↓b_gAR, ↓b_pAI, ↓b_pAL, bad_of, bad_l, Bool.false_eq_true, ↓reduceIte, Int32.reduceLT, Int32.reduceLE, Int32.reduceToNatClampNeg, Int32.reduceOfNat, Int32.reduceAdd, Int32.reduceSub, Int32.reduceMul, Nat.reduceAdd, Nat.reduceMul, Nat.reduceEqDiff]
      simp [okA, g2]
  · refine ⟨h, ?_, Sc.rf, fun hh => absurd (okA_b hh) g1, rfl, rfl, rfl, fun _ _ => rfl⟩
    rw [if_neg g1] at e0
    unfold mX2_looksAt
    rw [b_gR, if_pos (lK192 L), lR192_0 L, b_rcv, if_pos (lK56 L), e0, o_bind, if_pos rfl]
    simp [okA, g1]
/-- the rows that speak for a value of the agreed field, and those of them in the cell -/
def agQ (A : AS) (f u : Nat) (r : Nat) : Bool := okA A r (aS A 3) 0 && decide (vX A r (aS A 3) 0 f = Int32.ofNat u)
def agP (A : AS) (P : Pl) (i j : Int32) (f u : Nat) (r : Nat) : Bool := agQ A f u r && inP P (vX A r (aS A 3) 0) i j
def agW (A : AS) (r : Nat) : Int64 := (aA A 5 r).toInt64
theorem c_sw {c r k f i j : Nat} {h : MHp} {A : AS} (C : CR c h A) (W : WA A) (hk : k < aN A 1) (hf : f < bF (aB A)) (e5 : aS A 5 = Int32.ofNat f) (ht : bT (aB A) f ≤ 2) (hi : i < vs (aB A) (pI1 (aP A k))) (hj : j < vs (aB A) (pI2 (aP A k))) (hr : r < aN A 2) : ∃ h1 : MHp, (∀ n : Nat, mX0_sumWeights_l27 (n + 1) h (c + 194) (some (c + 120 + 7 * k)) (Int32.ofNat (i * vs (aB A) (pI2 (aP A k)) + j)) (some (c + 56)) (Int32.ofNat r) = mX0_sumWeights_l27 n h1 (c + 194) (some (c + 120 + 7 * k)) (Int32.ofNat (i * vs (aB A) (pI2 (aP A k)) + j)) (some (c + 56)) (Int32.ofNat (r + 1))) ∧ Sc c h h1 ∧ ∀ u : Nat, u < 3 → hAL h1 (c + 196) u = (if agQ A f u r = true then hAL h (c + 196) u + agW A r else hAL h (c + 196) u) ∧ hAL h1 (c + 197) u = (if agP A (aP A k) (Int32.ofNat i) (Int32.ofNat j) f u r = true then hAL h (c + 197) u + wtA A (aP A k) r (aS A 3) 0 else hAL h (c + 197) u) := by
  have L := C.l
  have h60 := W.2.2.2.1
  have h6 := W.1.1
  have f6 : f < 6 := by omega
  have e1 := C.2.1.2.2.2.2.2.1
  have td := C.td
  have e2 : ¬ Int32.ofNat (aN A 2) ≤ Int32.ofNat r := by rw [le_of (by omega) (by omega)]; omega
  have e3 : ¬ (60 : Int32) ≤ Int32.ofNat r := by rw [show (60 : Int32) = Int32.ofNat 60 from rfl, le_of (by omega) (by omega)]; omega
  obtain ⟨h2, e4, S, hx, i1, i2, i3, i4⟩ := p_looksAt3 C W hr (show 0 < 5 by omega) (aS A 3)
  have e4 : mX2_looksAt h (c + 192) (Int32.ofNat r) (aS A 3) 0 = some (if okA A r (aS A 3) 0 = true then 1 else 0, h2) := e4
  have C2 := C.sc W S
  have L2 := C2.l
  by_cases g : okA A r (aS A 3) 0 = true
  · rw [if_pos g] at e4
    have v1 := p_valueIn (lK193 L2) (lN193 L2) f6
    rw [hx g f hf] at v1
    have x5 : hI h2 (c + 194) 1 = Int32.ofNat f := by rw [i1]; rw [← e5]; exact C.2.1.2.2.2.2.2.2.2.2
    have base : ∀ n : Nat, mX0_sumWeights_l27 (n + 1) h (c + 194) (some (c + 120 + 7 * k)) (Int32.ofNat (i * vs (aB A) (pI2 (aP A k)) + j)) (some (c + 56)) (Int32.ofNat r) = mX0_sumWeights_b78 (mX0_sumWeights_l27 n) h2 (c + 194) (some (c + 120 + 7 * k)) (Int32.ofNat (i * vs (aB A) (pI2 (aP A k)) + j)) (some (c + 56)) (Int32.ofNat r) (vX A r (aS A 3) 0 f) := fun n => by
      rw [mX0_sumWeights_l27, b_gI, if_pos (lK56 L), e1, if_neg e2, if_neg e3, b_gR, if_pos (lK194 L), lR194_0 L, b_gI, if_pos (lK56 L), td, b_rcv, if_pos (lK192 L), e4, o_bind, if_neg n10, b_gR, if_pos (lK194 L2), lR194_0 L2, b_gR, if_pos (lK192 L2), lR192_1 L2, b_gI, if_pos (lK194 L2), x5, v1, o_bind]
    rcases vA_in W hr (show 0 < 5 by omega) (aS A 3) f hf with q | ⟨w, hw, ew⟩
    · have q0 : ∀ u : Nat, u < 3 → agQ A f u r = false := fun u hu => by
        have : ¬ (-1 : Int32) = Int32.ofNat u := fun e => nm_of (show u < 2147483648 by omega) e.symm
        simp [agQ, q, this]
      refine ⟨h2, fun n => ?_, S, fun u hu => ?_⟩
      · rw [base, q, mX0_sumWeights_b78, if_pos (by decide), mX0_sumWeights_b159, s1_of]
      · rw [i3]
        simp [agP, q0 u hu]
    · have w3 : w < 3 := by omega
      have c0 : ¬ Int32.ofNat w < 0 := by rw [nn_of (by omega)]; exact not_false
      have c3 : ¬ Int32.ofNat 3 ≤ Int32.ofNat w := by rw [le_of (by omega) (by omega)]; omega
      have bw := bad_n (k := w) (n := 3) (by omega) (by omega)
      have br := bad_n (k := r) (n := 60) (by omega) (by omega)
      have clw : (Int32.ofNat w).toNatClampNeg = w := cl_of (by omega)
      have clr : (Int32.ofNat r).toNatClampNeg = r := cl_of (by omega)
      have w5 : hAI h2 (c + 114) = aA A 5 := C2.2.2.1.2.2.2.2.2.2.2.2.2.1
      have qu : ∀ u : Nat, u < 3 → agQ A f u r = decide (u = w) := fun u hu => by
        have : (Int32.ofNat w = Int32.ofNat u) = (w = u) := eq_of (by omega) (by omega)
        simp only [agQ, g, ew, this, Bool.true_and]
        by_cases e : w = u
        · simp [e]
        · have : ¬ u = w := fun h => e h.symm
          simp [e, this]
      obtain ⟨h3, hh3⟩ : ∃ h3 : MHp, h3 = sAL h2 (c + 196) (va_up (hAL h2 (c + 196)) w (hAL h2 (c + 196) w + (aA A 5 r).toInt64)) := ⟨_, rfl⟩
      have S3 : Sc c h2 h3 := by rw [hh3]; exact Sc.AL 196 _ (by decide)
      have C3 := C2.sc W S3
      have L3 := C3.l
      have x3 : hAI h3 = hAI h2 := by rw [hh3]; rfl
      obtain ⟨p1, p2, p3, p4, p5⟩ := C3.plan W hk
      have xe : ∀ y : Nat, y < bF (aB A) → hAI h3 (c + 193) y = vX A r (aS A 3) 0 y := fun y hy => by rw [x3]; exact hx g y hy
      have V : inV (aB A) (hAI h3 (c + 193)) := fun y hy => by rw [xe y hy]; exact vA_in W hr (show 0 < 5 by omega) (aS A 3) y hy
      have e6 := p_cellOf p1 p3 W.1 p5 (lK193 L3) (lN193 L3) V
      have e7 := clA2_iff W.1 p5 V hi hj
      rw [inP_congr p5 W.1.1 xe] at e7
      have e8 := p_timesOf p1 p3 W.1 p5 (lK193 L3) (lN193 L3)
      rw [tmA_congr p5 xe] at e8
      have base2 : ∀ n : Nat, mX0_sumWeights_l27 (n + 1) h (c + 194) (some (c + 120 + 7 * k)) (Int32.ofNat (i * vs (aB A) (pI2 (aP A k)) + j)) (some (c + 56)) (Int32.ofNat r) = if clA2 (aB A) (aP A k) (hAI h3 (c + 193)) = Int32.ofNat (i * vs (aB A) (pI2 (aP A k)) + j) then mX0_sumWeights_l27 n (sAL h3 (c + 197) (va_up (hAL h3 (c + 197)) w (hAL h3 (c + 197) w + wtA A (aP A k) r (aS A 3) 0))) (c + 194) (some (c + 120 + 7 * k)) (Int32.ofNat (i * vs (aB A) (pI2 (aP A k)) + j)) (some (c + 56)) (Int32.ofNat (r + 1)) else mX0_sumWeights_l27 n h3 (c + 194) (some (c + 120 + 7 * k)) (Int32.ofNat (i * vs (aB A) (pI2 (aP A k)) + j)) (some (c + 56)) (Int32.ofNat (r + 1)) := fun n => by
        rw [base, ew, mX0_sumWeights_b78, if_neg c0, b_gR, if_pos (lK194 L2), lR194_5 L2, b_gN, if_pos (lK196 L2), lN196 L2, if_neg c3, b_gR, if_pos (lK194 L2), lR194_5 L2, b_gAL, if_pos (lK196 L2), lN196 L2, if_neg bw, clw, b_gR, if_pos (lK56 L2), lR56_4 L2, b_gAI, if_pos (lK114 L2), lN114 L2, if_neg br, clr, w5, b_pAL, if_pos (lK196 L2), lN196 L2, if_neg bw, clw, ← hh3, b_gR, if_pos (lK194 L3), lR194_0 L3, b_gR, if_pos (lK192 L3), lR192_1 L3, b_rcv, if_pos p1.1, e6, o_bind, b_gR, if_pos (lK194 L3), lR194_6 L3, b_gAL, if_pos (lK197 L3), lN197 L3, if_neg bw, clw, b_gR, if_pos (lK56 L3), lR56_4 L3, b_gAI, if_pos (lK114 L3), lN114 L3, if_neg br, clr, x3, w5, b_gR, if_pos (lK194 L3), lR194_0 L3, b_gR, if_pos (lK192 L3), lR192_1 L3, b_rcv, if_pos p1.1, e8, o_bind, b_pAL, if_pos (lK197 L3), lN197 L3, if_neg bw, clw, mX0_sumWeights_b159, mX0_sumWeights_b159, s1_of]
        rfl
      have a6 : ∀ u : Nat, u < 3 → hAL h3 (c + 196) u = (if agQ A f u r = true then hAL h (c + 196) u + agW A r else hAL h (c + 196) u) := fun u hu => by
        rw [hh3, e_sAL, if_pos rfl, e_up, i3, qu u hu]
        by_cases e : u = w
        · rw [if_pos e, if_pos (by rw [e]; exact decide_eq_true rfl), e]; rfl
        · rw [if_neg e, if_neg (by rw [decide_eq_true_eq]; exact e)]
      have a7 : hAL h3 (c + 197) = hAL h (c + 197) := by
        rw [hh3, e_sAL, if_neg (by omega), i3]
      by_cases y : inP (aP A k) (vX A r (aS A 3) 0) (Int32.ofNat i) (Int32.ofNat j) = true
      · have e9 := e7.mpr y
        refine ⟨sAL h3 (c + 197) (va_up (hAL h3 (c + 197)) w (hAL h3 (c + 197) w + wtA A (aP A k) r (aS A 3) 0)), fun n => ?_, (S.tr S3).tr (Sc.AL 197 _ (by decide)), fun u hu => ⟨?_, ?_⟩⟩
        · rw [base2, if_pos e9]
        · rw [e_sAL, if_neg (by omega)]; exact a6 u hu
        · rw [e_sAL, if_pos rfl, e_up, a7]
          unfold agP
          rw [qu u hu, y, Bool.and_true]
          by_cases e : u = w
          · rw [if_pos e, if_pos (by rw [e]; exact decide_eq_true rfl), e]
          · rw [if_neg e, if_neg (by rw [decide_eq_true_eq]; exact e)]
      · have e9 : ¬ (clA2 (aB A) (aP A k) (hAI h3 (c + 193)) = Int32.ofNat (i * vs (aB A) (pI2 (aP A k)) + j)) := fun e => y (e7.mp e)
        refine ⟨h3, fun n => ?_, S.tr S3, fun u hu => ⟨a6 u hu, ?_⟩⟩
        · rw [base2, if_neg e9]
        · rw [a7]
          unfold agP
          rw [if_neg]
          rw [Bool.and_eq_true]
          exact fun hh => y hh.2
  · rw [if_neg g] at e4
    have q0 : ∀ u : Nat, agQ A f u r = false := fun u => by simp [agQ, g]
    refine ⟨h2, fun n => ?_, S, fun u hu => ?_⟩
    · rw [mX0_sumWeights_l27, b_gI, if_pos (lK56 L), e1, if_neg e2, if_neg e3, b_gR, if_pos (lK194 L), lR194_0 L, b_gI, if_pos (lK56 L), td, b_rcv, if_pos (lK192 L), e4, o_bind, if_pos rfl, mX0_sumWeights_b78, if_pos (by decide), mX0_sumWeights_b159, s1_of]
    · rw [i3]
      simp [agP, q0]
theorem c_swl {c k f i j : Nat} {A : AS} (W : WA A) (hk : k < aN A 1) (hf : f < bF (aB A)) (e5 : aS A 5 = Int32.ofNat f) (ht : bT (aB A) f ≤ 2) (hi : i < vs (aB A) (pI1 (aP A k))) (hj : j < vs (aB A) (pI2 (aP A k))) : ∀ (q fu r : Nat) (h : MHp), CR c h A → r + q = aN A 2 → q < fu → ∃ h' : MHp, mX0_sumWeights_l27 fu h (c + 194) (some (c + 120 + 7 * k)) (Int32.ofNat (i * vs (aB A) (pI2 (aP A k)) + j)) (some (c + 56)) (Int32.ofNat r) = some h' ∧ Sc c h h' ∧ ∀ u : Nat, u < 3 → hAL h' (c + 196) u = sumF (agQ A f u) (agW A) q r (hAL h (c + 196) u) ∧ hAL h' (c + 197) u = sumF (agP A (aP A k) (Int32.ofNat i) (Int32.ofNat j) f u) (fun r => wtA A (aP A k) r (aS A 3) 0) q r (hAL h (c + 197) u) := by
  intro q
  have h60 := W.2.2.2.1
  induction q with
  | zero =>
    intro fu r h C hr hf2
    obtain ⟨fu, rfl⟩ : ∃ g : Nat, fu = g + 1 := ⟨fu - 1, by omega⟩
    have L := C.l
    have e1 := C.2.1.2.2.2.2.2.1
    have e2 : Int32.ofNat (aN A 2) ≤ Int32.ofNat r := by rw [le_of (by omega) (by omega)]; omega
    exact ⟨h, by rw [mX0_sumWeights_l27, b_gI, if_pos (lK56 L), e1, if_pos e2], Sc.rf, fun u hu => ⟨rfl, rfl⟩⟩
  | succ q ih =>
    intro fu r h C hr hf2
    obtain ⟨fu, rfl⟩ : ∃ g : Nat, fu = g + 1 := ⟨fu - 1, by omega⟩
    obtain ⟨h1, e1, S1, a1⟩ := c_sw C W hk hf e5 ht hi hj (show r < aN A 2 by omega)
    obtain ⟨h2, e2, S2, b1⟩ := ih fu (r + 1) h1 (C.sc W S1) (by omega) (by omega)
    refine ⟨h2, by rw [e1, e2], S1.tr S2, fun u hu => ⟨?_, ?_⟩⟩
    · rw [(b1 u hu).1, (a1 u hu).1, sumF_s]
    · rw [(b1 u hu).2, (a1 u hu).2, sumF_s]
theorem j_fillL_l6 {h : MHp} {a n : Nat} {v : Int64} (hk : hK h a = 21) (hn : hN h a = n) (hn2 : n ≤ 2000) : ∀ (q fu i : Nat) (g : Nat → Int64), i + q = n → q < fu → mJ7_fill_d0a16_l6 fu (sAL h a g) (some a) v (Int32.ofNat i) (Int32.ofNat n) = some (sAL h a (fun j => if i ≤ j ∧ j < n then v else g j)) := by
  intro q
  induction q with
  | zero =>
    intro fu i g hi hf
    obtain ⟨fu, rfl⟩ : ∃ g : Nat, fu = g + 1 := ⟨fu - 1, by omega⟩
    have e : (fun j => if i ≤ j ∧ j < n then v else g j) = g := by
      funext j; rw [if_neg (by omega)]
    have e2 : Int32.ofNat n ≤ Int32.ofNat i := by rw [le_of (by omega) (by omega)]; omega
    rw [e, mJ7_fill_d0a16_l6, if_pos e2]
  | succ q ih =>
    intro fu i g hi hf
    obtain ⟨fu, rfl⟩ : ∃ g : Nat, fu = g + 1 := ⟨fu - 1, by omega⟩
    have e2 : ¬ Int32.ofNat n ≤ Int32.ofNat i := by rw [le_of (by omega) (by omega)]; omega
    have bd := bad_n (k := i) (n := n) (by omega) (by omega)
    have cli : (Int32.ofNat i).toNatClampNeg = i := cl_of (by omega)
    have e3 := ih fu (i + 1) (va_up g i v) (by omega) (by omega)
    have e4 : (fun j => if i + 1 ≤ j ∧ j < n then v else va_up g i v j) = (fun j => if i ≤ j ∧ j < n then v else g j) := by
      funext j
      by_cases q : j = i
      · subst q; rw [if_neg (by omega), if_pos (by omega), va_up, if_pos rfl]
      · by_cases q2 : i + 1 ≤ j ∧ j < n
        · rw [if_pos q2, if_pos (by omega)]
        · rw [if_neg q2, if_neg (by omega), va_up, if_neg q]
    rw [e4] at e3
    rw [mJ7_fill_d0a16_l6, if_neg e2, b_pAL, if_pos (show hK (sAL h a g) a = 21 from hk), if_neg (show ¬ bad (Int32.ofNat i) (hN (sAL h a g) a) = true by rw [e_N_sAL, hn]; exact bd), cli, e_sAL, if_pos rfl, e_AL2, s1_of, e3]
theorem j_fillL {h : MHp} {a n : Nat} {v : Int64} (hk : hK h a = 21) (hn : hN h a = n) (hn2 : n ≤ 2000) : mJ7_fill_d0a16 h (some a) v = some (sAL h a (fun j => if j < n then v else hAL h a j)) := by
  have e := j_fillL_l6 (v := v) hk hn hn2 n FUEL 0 (hAL h a) (by omega) (by unfold FUEL; omega)
  have e0 : sAL h a (hAL h a) = h := by
    refine h_ext rfl rfl rfl rfl rfl rfl ?_ rfl rfl rfl
    funext b
    simp only [e_sAL]
    by_cases e : b = a <;> simp [e]
  rw [e0] at e
  rw [mJ7_fill_d0a16, b_gN, if_pos hk, hn, show (0 : Int32) = Int32.ofNat 0 from rfl, e]
  have e3 : (fun j => if 0 ≤ j ∧ j < n then v else hAL h a j) = (fun j => if j < n then v else hAL h a j) := by
    funext j; simp
  rw [e3]
theorem p_sumWeights {c k f i j : Nat} {h : MHp} {A : AS} (C : CR c h A) (W : WA A) (hk : k < aN A 1) (hf : f < bF (aB A)) (e5 : aS A 5 = Int32.ofNat f) (ht : bT (aB A) f ≤ 2) (hi : i < vs (aB A) (pI1 (aP A k))) (hj : j < vs (aB A) (pI2 (aP A k))) : ∃ h' : MHp, mX0_sumWeights h (c + 194) (some (c + 120 + 7 * k)) (Int32.ofNat (i * vs (aB A) (pI2 (aP A k)) + j)) = some h' ∧ Sc c h h' ∧ ∀ u : Nat, u < 3 → hAL h' (c + 196) u = sumF (agQ A f u) (agW A) (aN A 2) 0 0 ∧ hAL h' (c + 197) u = sumF (agP A (aP A k) (Int32.ofNat i) (Int32.ofNat j) f u) (fun r => wtA A (aP A k) r (aS A 3) 0) (aN A 2) 0 0 := by
  have L := C.l
  have h60 := W.2.2.2.1
  obtain ⟨X, hX⟩ : ∃ X : MHp, X = sAL h (c + 196) (fun j => if j < 3 then 0 else hAL h (c + 196) j) := ⟨_, rfl⟩
  have f1 := j_fillL (v := 0) (lK196 L) (lN196 L) (by omega)
  rw [← hX] at f1
  have SX : Sc c h X := by rw [hX]; exact Sc.AL 196 _ (by decide)
  have CX2 := C.sc W SX
  have LX := CX2.l
  obtain ⟨Y, hY⟩ : ∃ Y : MHp, Y = sAL X (c + 197) (fun j => if j < 3 then 0 else hAL X (c + 197) j) := ⟨_, rfl⟩
  have f2 := j_fillL (v := 0) (lK197 LX) (lN197 LX) (by omega)
  rw [← hY] at f2
  have SY : Sc c X Y := by rw [hY]; exact Sc.AL 197 _ (by decide)
  have CY := CX2.sc W SY
  have LY := CY.l
  obtain ⟨h2, e2, S2, b1⟩ := c_swl W hk hf e5 ht hi hj (aN A 2) FUEL 0 Y CY (by omega) (by unfold FUEL; omega)
  refine ⟨h2, ?_, (SX.tr SY).tr S2, fun u hu => ⟨?_, ?_⟩⟩
  · rw [mX0_sumWeights, b_gR, if_pos (lK194 L), lR194_5 L, f1, o_bind, b_gR, if_pos (lK194 LX), lR194_6 LX, f2, o_bind, b_gR, if_pos (lK194 LY), lR194_0 LY, b_gR, if_pos (lK192 LY), lR192_0 LY, show (0 : Int32) = Int32.ofNat 0 from rfl, e2]
  · rw [(b1 u hu).1, hY, e_sAL, if_neg (by omega), hX, e_sAL, if_pos rfl, if_pos hu]
  · rw [(b1 u hu).2, hY, e_sAL, if_pos rfl, if_pos hu]

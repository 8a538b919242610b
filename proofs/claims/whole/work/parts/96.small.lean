/-! small -/
def th0 (a b : Int32) : Int32 := if b ≤ 0 then 0 else (a * 1000) / b
theorem p_thou (h : MHp) (a b : Int32) : mX6_thousandths h a b = some (th0 a b) := by
  unfold th0
  rw [mX6_thousandths]
  by_cases q : b ≤ 0
  · rw [if_pos q, if_pos q]
  · have nz0 : ¬ b = 0 := fun e => q (by rw [e]; decide)
    rw [if_neg q, if_neg q, nz, if_neg nz0, o_bind]
theorem p_own {h : MHp} {p : Nat} (K : hK h p = 7) : mX6_own h p = some (th0 (hI h p 3) (hI h p 2)) := by
  rw [mX6_own, b_gI, if_pos K, b_gI, if_pos K, p_thou, o_bind]
theorem p_like {h : MHp} {p : Nat} (K : hK h p = 7) : mX6_like h p = some (th0 (hI h p 5) (hI h p 4)) := by
  rw [mX6_like, b_gI, if_pos K, b_gI, if_pos K, p_thou, o_bind]
theorem p_part {h : MHp} {p : Nat} (K : hK h p = 7) (x : Int32) : mX6_part h p x = some (th0 (hI h p 2) (hI h p 2 + x)) := by
  rw [mX6_part, b_gI, if_pos K, b_gI, if_pos K, p_thou, o_bind]
theorem p_joined {h : MHp} {p : Nat} (K : hK h p = 7) (x : Int32) : mX6_joined h p x = some ((th0 (hI h p 3) (hI h p 2) * th0 (hI h p 2) (hI h p 2 + x) + th0 (hI h p 5) (hI h p 4) * (1000 - th0 (hI h p 2) (hI h p 2 + x))) / 1000) := by
  rw [mX6_joined, b_rcv, if_pos K, p_own K, o_bind, b_rcv, if_pos K, p_part K, o_bind, b_rcv, if_pos K, p_like K, o_bind, b_rcv, if_pos K, p_part K, o_bind]
/-- the rows that speak for value u of field f (or for those in one group with it), and those of them that the plan wants -/
def smQ (A : AS) (f : Nat) (u : Nat) (lk : Bool) (r : Nat) : Bool := okA A r (aS A 3) 0 && decide (vX A r (aS A 3) 0 f ≠ -1) && (if lk = true then decide (vX A r (aS A 3) 0 f ≠ Int32.ofNat u) && decide (aA A 11 (10 * f + (vX A r (aS A 3) 0 f).toNatClampNeg) = aA A 11 (10 * f + u)) else decide (vX A r (aS A 3) 0 f = Int32.ofNat u))
def smH (A : AS) (k r : Nat) : Bool := tH (pW (aP A k)) (vX A r (aS A 3) 0)
def smN (A : AS) (f u : Nat) (lk : Bool) : Int32 := cntF (smQ A f u lk) (aN A 2) 0 0
def smS (A : AS) (k f u : Nat) (lk : Bool) : Int32 := cntF (fun r => smQ A f u lk r && smH A k r) (aN A 2) 0 0
theorem p_looksAt2 {c r fil : Nat} {h : MHp} {A : AS} (C : CR c h A) (W : WA A) (hr : r < aN A 2) (hfil : fil < 5) (d : Int32) : ∃ h' : MHp, mX2_looksAt h (c + 192) (Int32.ofNat r) d (Int32.ofNat fil) = some (if okA A r d fil = true then 1 else 0, h') ∧ Sc c h h' ∧ (okA A r d fil = true → ∀ f : Nat, f < bF (aB A) → hAI h' (c + 193) f = vX A r d fil f) ∧ hI h' = hI h := by
  obtain ⟨b, G⟩ := C.rg W
  have L := G.1
  have e0 := p_isThere (A := A) L G.2.2.2.2.2.1 G.2.2.2.2.2.2 C.2.2.1.2.2.2.2.2.1 C.2.2.1.2.2.2.2.2.2.1 hr d
  by_cases g1 : thA A r d = true
  · have e1 := g_load G hr hfil d (k := 193) (by omega)
    have S : Sc c h (sAI h (c + 193) (lD c h (bF (aB A)) r d fil (hAI h (c + 193)))) := Sc.AI 193 _ (by decide)
    have hx : hAI (sAI h (c + 193) (lD c h (bF (aB A)) r d fil (hAI h (c + 193)))) (c + 193) = lD c h (bF (aB A)) r d fil (hAI h (c + 193)) := by rw [e_sAI, if_pos rfl]
    have G2 := G.sc S
    have i0 : hI (sAI h (c + 193) (lD c h (bF (aB A)) r d fil (hAI h (c + 193)))) = hI h := e_I_sAI _ _ _
    revert e1 S hx G2 i0
    generalize sAI h (c + 193) (lD c h (bF (aB A)) r d fil (hAI h (c + 193))) = h2
    intro e1 S hx G2 i0
    have L2 := G2.1
    have e3 := g_rule G2 (k := c + 193) (lK193 L2) (lN193 L2)
    have xe : ∀ f : Nat, f < bF (aB A) → lD c h (bF (aB A)) r d fil (hAI h (c + 193)) f = vX A r d fil f := fun f hf => by
      have := W.1.1
      simp only [lD, if_pos (show f < 6 by omega)]
      exact lV_vX C W hr hf hfil (thA_b g1)
    rw [hx, bB_congr W.1 xe] at e3
    have j1 := G2.2.1
    have j2 := G2.ib.1
    have n10 : ¬ ((1 : Int32) = 0) := by decide
    refine ⟨h2, ?_, S, fun _ f hf => by rw [hx]; exact xe f hf, i0⟩
    have hb := bB_le (aB A) (vX A r d fil)
    have hb2 := W.1.2.1
    by_cases g2 : bB (aB A) (vX A r d fil) = bN (aB A)
    · have g3 : ¬ (bB (aB A) (vX A r d fil) < bN (aB A)) := by omega
      rw [if_neg g3] at e3
      simp (maxSteps := 3000000) (disch := omega) only [mX2_looksAt, lK192 L, lR192_0 L, lR192_1 L, lK56 L, e0, g1, n10, e1, lK192 L2, lR192_0 L2, lR192_1 L2, lK56 L2, j1, j2, e3, ↓o_bind, o_map, ↓b_rcv, ↓b_gI, ↓b_gL, ↓b_gR, ↓b_gN, ↓b_pI, ↓b_pL, ↓b_pR, ↓b_gAI, ↓b_gAL, ↓b_gAR, ↓b_pAI, ↓b_pAL, bad_of, bad_l, Bool.false_eq_true, ↓reduceIte, Int32.reduceLT, Int32.reduceLE, Int32.reduceToNatClampNeg, Int32.reduceOfNat, Int32.reduceAdd, Int32.reduceSub, Int32.reduceMul, Nat.reduceAdd, Nat.reduceMul, Nat.reduceEqDiff]
      simp [okA, g1, g2]
    · have g3 : bB (aB A) (vX A r d fil) < bN (aB A) := by omega
      rw [if_pos g3] at e3
      have n2 : ¬ (Int32.ofNat (bB (aB A) (vX A r d fil)) = -2) := by
        rw [← Int32.toInt_inj, ti_of (by omega)]
        have : (-2 : Int32).toInt = -2 := rfl
        rw [this]; omega
      simp (maxSteps := 3000000) (disch := omega) only [mX2_looksAt, lK192 L, lR192_0 L, lR192_1 L, lK56 L, e0, g1, n10, e1, lK192 L2, lR192_0 L2, lR192_1 L2, lK56 L2, j1, j2, e3, n2, ↓o_bind, o_map, ↓b_rcv, ↓b_gI, ↓b_gL, ↓b_gR, ↓b_gN, ↓b_pI, ↓b_pL, ↓b_pR, ↓b_gAI, ↓b_gAL, ↓b_gAR, ↓b_pAI, ↓b_pAL, bad_of, bad_l, Bool.false_eq_true, ↓reduceIte, Int32.reduceLT, Int32.reduceLE, Int32.reduceToNatClampNeg, Int32.reduceOfNat, Int32.reduceAdd, Int32.reduceSub, Int32.reduceMul, Nat.reduceAdd, Nat.reduceMul, Nat.reduceEqDiff]
      simp [okA, g2]
  · refine ⟨h, ?_, Sc.rf, fun hh => absurd (okA_b hh) g1, rfl⟩
    rw [if_neg g1] at e0
    unfold mX2_looksAt
    rw [b_gR, if_pos (lK192 L), lR192_0 L, b_rcv, if_pos (lK56 L), e0, o_bind, if_pos rfl]
    simp [okA, g1]
theorem c_gr {c f u : Nat} {h : MHp} (L : CL c h) {g : Nat → Int32} (hg : hAI h (c + 199) = g) (hf : f < 6) (hu : u < 10) : mX6_groupOf h (c + 198) (Int32.ofNat f) (Int32.ofNat u) = some (g (10 * f + u)) := by
  have e : Int32.ofNat f * 10 + Int32.ofNat u = Int32.ofNat (10 * f + u) := by
    rw [show (10 : Int32) = Int32.ofNat 10 from rfl, ofNat_mul_add, Nat.mul_comm]
  have bd := bad_n (k := 10 * f + u) (n := 60) (by omega) (by omega)
  have c0 : ¬ Int32.ofNat (10 * f + u) < 0 := by rw [nn_of (by omega)]; exact not_false
  have c1 : ¬ Int32.ofNat 60 ≤ Int32.ofNat (10 * f + u) := by rw [le_of (by omega) (by omega)]; omega
  rw [mX6_groupOf, e, if_neg c0, b_gR, if_pos (lK198 L), lR198_1 L, b_gN, if_pos (lK199 L), lN199 L, if_neg c1, b_gR, if_pos (lK198 L), lR198_1 L, b_gAI, if_pos (lK199 L), lN199 L, if_neg bd, cl_of (by omega), hg]
theorem c_sv {c r k f u : Nat} {h : MHp} {A : AS} (C : CR c h A) (W : WA A) (hk : k < aN A 1) (hf : f < bF (aB A)) (hu : u ≤ bT (aB A) f) (hr : r < aN A 2) : ∃ h1 : MHp, (∀ n : Nat, mX6_survey_l32 (n + 1) h (c + 198) (some (c + 120 + 7 * k)) (Int32.ofNat f) (Int32.ofNat u) (some (c + 56)) (Int32.ofNat r) = mX6_survey_l32 n h1 (c + 198) (some (c + 120 + 7 * k)) (Int32.ofNat f) (Int32.ofNat u) (some (c + 56)) (Int32.ofNat (r + 1))) ∧ Sc c h h1 ∧ hI h1 (c + 198) 2 = (if smQ A f u false r = true then hI h (c + 198) 2 + 1 else hI h (c + 198) 2) ∧ hI h1 (c + 198) 3 = (if (smQ A f u false r && smH A k r) = true then hI h (c + 198) 3 + 1 else hI h (c + 198) 3) ∧ hI h1 (c + 198) 4 = (if smQ A f u true r = true then hI h (c + 198) 4 + 1 else hI h (c + 198) 4) ∧ hI h1 (c + 198) 5 = (if (smQ A f u true r && smH A k r) = true then hI h (c + 198) 5 + 1 else hI h (c + 198) 5) := by
  have L := C.l
  have h60 := W.2.2.2.1
  have h6 := W.1.1
  have f6 : f < 6 := by omega
  have ur := (W.1.2.2.1 f hf).2.1
  have e1 := C.2.1.2.2.2.2.2.1
  have td := C.td
  have e2 : ¬ Int32.ofNat (aN A 2) ≤ Int32.ofNat r := by rw [le_of (by omega) (by omega)]; omega
  obtain ⟨h2, e3, S, hx, i0⟩ := p_looksAt2 C W hr (show 0 < 5 by omega) (aS A 3)
  have e4 : mX2_looksAt h (c + 192) (Int32.ofNat r) (aS A 3) 0 = some (if okA A r (aS A 3) 0 = true then 1 else 0, h2) := e3
  have C2 := C.sc W S
  have L2 := C2.l
  have i2 : ∀ j : Nat, hI h2 (c + 198) j = hI h (c + 198) j := fun j => by rw [i0]
  by_cases g : okA A r (aS A 3) 0 = true
  · rw [if_pos g] at e4
    have e5 := p_valueIn (lK193 L2) (lN193 L2) f6
    rw [hx g f hf] at e5
    by_cases gm : vX A r (aS A 3) 0 f = -1
    · have q0 : ∀ lk : Bool, smQ A f u lk r = false := fun lk => by simp [smQ, gm]
      refine ⟨h2, fun n => ?_, S, ?_, ?_, ?_, ?_⟩
      · rw [mX6_survey_l32, b_gI, if_pos (lK56 L), e1, if_neg e2, b_gR, if_pos (lK198 L), lR198_0 L, b_gI, if_pos (lK56 L), td, b_rcv, if_pos (lK192 L), e4, o_bind, if_neg n10, b_gR, if_pos (lK198 L2), lR198_0 L2, b_gR, if_pos (lK192 L2), lR192_1 L2, e5, o_bind, mX6_survey_b75, if_pos gm, mX6_survey_b177, s1_of]
      all_goals rw [i2, q0]; rfl
    · obtain ⟨p1, p2, p3, p4, p5⟩ := C2.plan W hk
      have T := p1.2.2.2.2.2.2.2.2
      have e6 := p_holds T p3.2.2.2.2.2 p5.2.2.2.2 h6 (lK193 L2) (lN193 L2)
      have e7 : tH (pW (aP A k)) (hAI h2 (c + 193)) = smH A k r := tH_congr p5.2.2.2.2 h6 (fun j hj => hx g j hj)
      rw [e7] at e6
      obtain ⟨w, hw, ew⟩ : ∃ w : Nat, w ≤ bT (aB A) f ∧ vX A r (aS A 3) 0 f = Int32.ofNat w := by
        rcases vA_in W hr (show 0 < 5 by omega) (aS A 3) f hf with q | q
        · exact absurd q gm
        · exact q
      have hg : hAI h2 (c + 199) = aA A 11 := C2.2.2.1.2.2.2.2.2.2.2.2.2.2.2
      have g1 := c_gr L2 hg f6 (show w < 10 by omega)
      have g2 := c_gr L2 hg f6 (show u < 10 by omega)
      have base : ∀ n : Nat, mX6_survey_l32 (n + 1) h (c + 198) (some (c + 120 + 7 * k)) (Int32.ofNat f) (Int32.ofNat u) (some (c + 56)) (Int32.ofNat r) = mX6_survey_b108 (mX6_survey_l32 n) h2 (c + 198) (some (c + 120 + 7 * k)) (Int32.ofNat f) (Int32.ofNat u) (some (c + 56)) (Int32.ofNat r) (Int32.ofNat w) (if smH A k r = true then 1 else 0) := fun n => by
        rw [mX6_survey_l32, b_gI, if_pos (lK56 L), e1, if_neg e2, b_gR, if_pos (lK198 L), lR198_0 L, b_gI, if_pos (lK56 L), td, b_rcv, if_pos (lK192 L), e4, o_bind, if_neg n10, b_gR, if_pos (lK198 L2), lR198_0 L2, b_gR, if_pos (lK192 L2), lR192_1 L2, e5, o_bind, mX6_survey_b75, if_neg gm, b_gR, if_pos p1.1, p1.2.1, b_gR, if_pos (lK198 L2), lR198_0 L2, b_gR, if_pos (lK192 L2), lR192_1 L2, b_rcv, if_pos T.1, e6, o_bind, ew]
        by_cases th : smH A k r = true
        · rw [if_pos th, if_neg n10]
        · rw [if_neg th, if_pos rfl]
      by_cases wu : w = u
      · have q1 : smQ A f u false r = true := by simp [smQ, g, ew, wu, nm_of (show u < 2147483648 by omega)]
        have q2 : smQ A f u true r = false := by simp [smQ, ew, wu]
        have wv : Int32.ofNat w = Int32.ofNat u := by rw [wu]
        refine ⟨(sI (sI h2 (c + 198) 2 (hI h2 (c + 198) 2 + 1)) (c + 198) 3 (hI h2 (c + 198) 3 + (if smH A k r = true then 1 else 0))), fun n => ?_, S.tr ((Sc.I 198 2 _ (by decide)).tr (Sc.I 198 3 _ (by decide))), ?_, ?_, ?_, ?_⟩
        · rw [base, mX6_survey_b108, if_pos wv, b_gI, if_pos (lK198 L2), b_pI, if_pos (lK198 L2), b_gI, if_pos (show hK (sI h2 (c + 198) 2 (hI h2 (c + 198) 2 + 1)) (c + 198) = 7 from lK198 L2), e_sI, if_neg (by omega), b_pI, if_pos (show hK (sI h2 (c + 198) 2 (hI h2 (c + 198) 2 + 1)) (c + 198) = 7 from lK198 L2), mX6_survey_b177, s1_of]
        · rw [e_sI, if_neg (by omega), e_sI, if_pos ⟨rfl, rfl⟩, i2, if_pos q1]
        · rw [e_sI, if_pos ⟨rfl, rfl⟩, i2, q1, Bool.true_and]
          by_cases th : smH A k r = true
          · rw [if_pos th, if_pos th]
          · rw [if_neg th, if_neg th, Int32.add_zero]
        · rw [e_sI, if_neg (by omega), e_sI, if_neg (by omega), i2, q2]; rfl
        · rw [e_sI, if_neg (by omega), e_sI, if_neg (by omega), i2, q2]; rfl
      · have wv : ¬ Int32.ofNat w = Int32.ofNat u := by rw [eq_of (by omega) (by omega)]; exact wu
        have q1 : smQ A f u false r = false := by simp [smQ, ew, wv]
        have clw : (Int32.ofNat w).toNatClampNeg = w := cl_of (by omega)
        by_cases gg : aA A 11 (10 * f + w) = aA A 11 (10 * f + u)
        · have q2 : smQ A f u true r = true := by simp only [smQ, g, ew, clw]; simp [wv, gg, nm_of (show w < 2147483648 by omega)]
          refine ⟨(sI (sI h2 (c + 198) 4 (hI h2 (c + 198) 4 + 1)) (c + 198) 5 (hI h2 (c + 198) 5 + (if smH A k r = true then 1 else 0))), fun n => ?_, S.tr ((Sc.I 198 4 _ (by decide)).tr (Sc.I 198 5 _ (by decide))), ?_, ?_, ?_, ?_⟩
          · rw [base, mX6_survey_b108, if_neg wv, b_rcv, if_pos (lK198 L2), g1, o_bind, b_rcv, if_pos (lK198 L2), g2, o_bind, if_pos gg, b_gI, if_pos (lK198 L2), b_pI, if_pos (lK198 L2), b_gI, if_pos (show hK (sI h2 (c + 198) 4 (hI h2 (c + 198) 4 + 1)) (c + 198) = 7 from lK198 L2), e_sI, if_neg (by omega), b_pI, if_pos (show hK (sI h2 (c + 198) 4 (hI h2 (c + 198) 4 + 1)) (c + 198) = 7 from lK198 L2), mX6_survey_b177, s1_of]
          · rw [e_sI, if_neg (by omega), e_sI, if_neg (by omega), i2, q1]; rfl
          · rw [e_sI, if_neg (by omega), e_sI, if_neg (by omega), i2, q1]; rfl
          · rw [e_sI, if_neg (by omega), e_sI, if_pos ⟨rfl, rfl⟩, i2, if_pos q2]
          · rw [e_sI, if_pos ⟨rfl, rfl⟩, i2, q2, Bool.true_and]
            by_cases th : smH A k r = true
            · rw [if_pos th, if_pos th]
            · rw [if_neg th, if_neg th, Int32.add_zero]
        · have q2 : smQ A f u true r = false := by simp only [smQ, g, ew, clw]; simp [gg]
          refine ⟨h2, fun n => ?_, S, ?_, ?_, ?_, ?_⟩
          · rw [base, mX6_survey_b108, if_neg wv, b_rcv, if_pos (lK198 L2), g1, o_bind, b_rcv, if_pos (lK198 L2), g2, o_bind, if_neg gg, mX6_survey_b177, s1_of]
          · rw [i2, q1]; rfl
          · rw [i2, q1]; rfl
          · rw [i2, q2]; rfl
          · rw [i2, q2]; rfl
  · rw [if_neg g] at e4
    have q0 : ∀ lk : Bool, smQ A f u lk r = false := fun lk => by simp [smQ, g]
    refine ⟨h2, fun n => ?_, S, ?_, ?_, ?_, ?_⟩
    · rw [mX6_survey_l32, b_gI, if_pos (lK56 L), e1, if_neg e2, b_gR, if_pos (lK198 L), lR198_0 L, b_gI, if_pos (lK56 L), td, b_rcv, if_pos (lK192 L), e4, o_bind, if_pos rfl, mX6_survey_b75, if_pos rfl, mX6_survey_b177, s1_of]
    all_goals rw [i2, q0]; rfl
theorem c_svl {c k f u : Nat} {A : AS} (W : WA A) (hk : k < aN A 1) (hf : f < bF (aB A)) (hu : u ≤ bT (aB A) f) : ∀ (q fu r : Nat) (h : MHp), CR c h A → r + q = aN A 2 → q < fu → ∃ h' : MHp, mX6_survey_l32 fu h (c + 198) (some (c + 120 + 7 * k)) (Int32.ofNat f) (Int32.ofNat u) (some (c + 56)) (Int32.ofNat r) = some h' ∧ Sc c h h' ∧ hI h' (c + 198) 2 = cntF (smQ A f u false) q r (hI h (c + 198) 2) ∧ hI h' (c + 198) 3 = cntF (fun r => smQ A f u false r && smH A k r) q r (hI h (c + 198) 3) ∧ hI h' (c + 198) 4 = cntF (smQ A f u true) q r (hI h (c + 198) 4) ∧ hI h' (c + 198) 5 = cntF (fun r => smQ A f u true r && smH A k r) q r (hI h (c + 198) 5) := by
  intro q
  have h60 := W.2.2.2.1
  induction q with
  | zero =>
    intro fu r h C hr hf
    obtain ⟨fu, rfl⟩ : ∃ g : Nat, fu = g + 1 := ⟨fu - 1, by omega⟩
    have L := C.l
    have e1 := C.2.1.2.2.2.2.2.1
    have e2 : Int32.ofNat (aN A 2) ≤ Int32.ofNat r := by rw [le_of (by omega) (by omega)]; omega
    exact ⟨h, by rw [mX6_survey_l32, b_gI, if_pos (lK56 L), e1, if_pos e2], Sc.rf, rfl, rfl, rfl, rfl⟩
  | succ q ih =>
    intro fu r h C hr hf
    obtain ⟨fu, rfl⟩ : ∃ g : Nat, fu = g + 1 := ⟨fu - 1, by omega⟩
    obtain ⟨h1, e1, S1, a2, a3, a4, a5⟩ := c_sv C W hk ‹f < bF (aB A)› hu (show r < aN A 2 by omega)
    obtain ⟨h2, e2, S2, b2, b3, b4, b5⟩ := ih fu (r + 1) h1 (C.sc W S1) (by omega) (by omega)
    refine ⟨h2, by rw [e1, e2], S1.tr S2, ?_, ?_, ?_, ?_⟩
    · rw [b2, a2, cntF_s]
    · rw [b3, a3, cntF_s]
    · rw [b4, a4, cntF_s]
    · rw [b5, a5, cntF_s]
theorem p_survey {c k f u : Nat} {h : MHp} {A : AS} (C : CR c h A) (W : WA A) (hk : k < aN A 1) (hf : f < bF (aB A)) (hu : u ≤ bT (aB A) f) : ∃ h' : MHp, mX6_survey h (c + 198) (some (c + 120 + 7 * k)) (Int32.ofNat f) (Int32.ofNat u) = some h' ∧ Sc c h h' ∧ hI h' (c + 198) 2 = smN A f u false ∧ hI h' (c + 198) 3 = smS A k f u false ∧ hI h' (c + 198) 4 = smN A f u true ∧ hI h' (c + 198) 5 = smS A k f u true := by
  have L := C.l
  have h60 := W.2.2.2.1
  obtain ⟨X, hX⟩ : ∃ X : MHp, X = sI (sI (sI (sI h (c + 198) 2 0) (c + 198) 3 0) (c + 198) 4 0) (c + 198) 5 0 := ⟨_, rfl⟩
  have S : Sc c h X := by
    rw [hX]
    exact (((Sc.I 198 2 0 (by decide)).tr (Sc.I 198 3 0 (by decide))).tr (Sc.I 198 4 0 (by decide))).tr (Sc.I 198 5 0 (by decide))
  have CX := C.sc W S
  have LX := CX.l
  have x2 : hI X (c + 198) 2 = 0 := by rw [hX, e_sI, if_neg (by omega), e_sI, if_neg (by omega), e_sI, if_neg (by omega), e_sI, if_pos ⟨rfl, rfl⟩]
  have x3 : hI X (c + 198) 3 = 0 := by rw [hX, e_sI, if_neg (by omega), e_sI, if_neg (by omega), e_sI, if_pos ⟨rfl, rfl⟩]
  have x4 : hI X (c + 198) 4 = 0 := by rw [hX, e_sI, if_neg (by omega), e_sI, if_pos ⟨rfl, rfl⟩]
  have x5 : hI X (c + 198) 5 = 0 := by rw [hX, e_sI, if_pos ⟨rfl, rfl⟩]
  obtain ⟨h2, e2, S2, b2, b3, b4, b5⟩ := c_svl W hk hf hu (aN A 2) FUEL 0 X CX (by omega) (by unfold FUEL; omega)
  refine ⟨h2, ?_, S.tr S2, by rw [b2, x2]; rfl, by rw [b3, x3]; rfl, by rw [b4, x4]; rfl, by rw [b5, x5]; rfl⟩
  have K2 : hK (sI h (c + 198) 2 0) (c + 198) = 7 := lK198 L
  have K3 : hK (sI (sI h (c + 198) 2 0) (c + 198) 3 0) (c + 198) = 7 := lK198 L
  have K4 : hK (sI (sI (sI h (c + 198) 2 0) (c + 198) 3 0) (c + 198) 4 0) (c + 198) = 7 := lK198 L
  rw [mX6_survey, b_pI, if_pos (lK198 L), b_pI, if_pos K2, b_pI, if_pos K3, b_pI, if_pos K4, ← hX, b_gR, if_pos (lK198 LX), lR198_0 LX, b_gR, if_pos (lK192 LX), lR192_0 LX]
  exact e2

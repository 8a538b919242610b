/-! count -/
def cntF (P : Nat → Bool) : Nat → Nat → Int32 → Int32
  | 0, _, a => a
  | q + 1, k, a => cntF P q (k + 1) (if P k = true then a + 1 else a)
theorem cntF_0 (P : Nat → Bool) (k : Nat) (a : Int32) : cntF P 0 k a = a := (rfl)
theorem cntF_s (P : Nat → Bool) (q k : Nat) (a : Int32) : cntF P (q + 1) k a = cntF P q (k + 1) (if P k = true then a + 1 else a) := (rfl)
def brA (A : AS) (r : Nat) : Bool := thA A r (aS A 3) && decide (bB (aB A) (vX A r (aS A 3) 0) < bN (aB A))
theorem nm2_of {k : Nat} (h : k < 2147483648) : ¬ Int32.ofNat k = -2 := by
  rw [← Int32.toInt_inj, ti_of h]
  have : (-2 : Int32).toInt = -2 := rfl
  rw [this]; omega
theorem CR.th {c r : Nat} {h : MHp} {A : AS} (C : CR c h A) (W : WA A) (hr : r < aN A 2) (d : Int32) : mX9_isThere h (c + 56) (Int32.ofNat r) d = some (if thA A r d = true then 1 else 0) := by
  obtain ⟨b, G⟩ := C.rg W
  exact p_isThere (A := A) G.1 G.2.2.2.2.2.1 G.2.2.2.2.2.2 C.2.2.1.2.2.2.2.2.1 C.2.2.1.2.2.2.2.2.2.1 hr d
/-- a row's first rule now, if its day has come -/
theorem CR.rr {c r : Nat} {h : MHp} {A : AS} (C : CR c h A) (W : WA A) (hr : r < aN A 2) : ∃ h2 : MHp, mX9_ruleThatHolds h (c + 56) (Int32.ofNat r) = some (if bB (aB A) (vX A r (aS A 3) 0) < bN (aB A) then Int32.ofNat (bB (aB A) (vX A r (aS A 3) 0)) else -2, h2) ∧ Sc c h h2 := by
  obtain ⟨b, G⟩ := C.rg W
  have e := g_ruleRow G hr
  have hb := (W.2.2.2.2.2.2.2.2.2.1 r hr).1
  have e2 : nR c h (aB A) r = bB (aB A) (vX A r (aS A 3) 0) := by
    unfold nR
    rw [C.td]
    exact bB_congr W.1 (fun f hf => lV_vX C W hr hf (by omega) hb)
  rw [e2] at e
  exact ⟨_, e, Sc.AI 118 _ (by decide)⟩
theorem c_cnt {c : Nat} {A : AS} (W : WA A) : ∀ (q fu r : Nat) (h : MHp) (a : Int32), CR c h A → r + q = aN A 2 → q < fu → ∃ h' : MHp, mX9_countBroken_l4 fu h (c + 56) a (Int32.ofNat r) = some (cntF (brA A) q r a, h') ∧ Sc c h h' := by
  intro q
  have h60 := W.2.2.2.1
  induction q with
  | zero =>
    intro fu r h a C hr hf
    obtain ⟨fu, rfl⟩ : ∃ g : Nat, fu = g + 1 := ⟨fu - 1, by omega⟩
    have L := C.l
    have e1 := C.2.1.2.2.2.2.2.1
    have e2 : Int32.ofNat (aN A 2) ≤ Int32.ofNat r := by rw [le_of (by omega) (by omega)]; omega
    exact ⟨h, by rw [mX9_countBroken_l4, b_gI, if_pos (lK56 L), e1, if_pos e2, cntF_0], Sc.rf⟩
  | succ q ih =>
    intro fu r h a C hr hf
    obtain ⟨fu, rfl⟩ : ∃ g : Nat, fu = g + 1 := ⟨fu - 1, by omega⟩
    have L := C.l
    have e1 := C.2.1.2.2.2.2.2.1
    have td := C.td
    have e2 : ¬ Int32.ofNat (aN A 2) ≤ Int32.ofNat r := by rw [le_of (by omega) (by omega)]; omega
    have e3 := C.th W (show r < aN A 2 by omega) (aS A 3)
    by_cases g1 : thA A r (aS A 3) = true
    · rw [if_pos g1] at e3
      obtain ⟨h2, e4, S⟩ := C.rr W (show r < aN A 2 by omega)
      obtain ⟨h3, e5, S2⟩ := ih fu (r + 1) h2 (if brA A r = true then a + 1 else a) (C.sc W S) (by omega) (by omega)
      refine ⟨h3, ?_, S.tr S2⟩
      rw [cntF_s, ← e5]
      have w2 := W.1.2.1
      by_cases g2 : bB (aB A) (vX A r (aS A 3) 0) < bN (aB A)
      · have g3 : brA A r = true := by simp [brA, g1, g2]
        rw [if_pos g2] at e4
        have n2 := nm2_of (k := bB (aB A) (vX A r (aS A 3) 0)) (by omega)
        simp (maxSteps := 3000000) (disch := omega) only [mX9_countBroken_l4, mX9_countBroken_b37, lK56 L, e1, e2, td, e3, n10, e4, n2, g3, s1_of, ↓o_bind, o_map, ↓b_rcv, ↓b_gI, ↓b_gL, ↓b_gR, ↓b_gN, ↓b_pI, ↓b_pL, ↓b_pR, ↓b_gAI, ↓b_gAL, ↓b_gAR, ↓b_pAI, ↓b_pAL, bad_of, bad_l, Bool.false_eq_true, ↓reduceIte, Int32.reduceLT, Int32.reduceLE, Int32.reduceToNatClampNeg, Int32.reduceOfNat, Int32.reduceAdd, Int32.reduceSub, Int32.reduceMul, Nat.reduceAdd, Nat.reduceMul, Nat.reduceEqDiff]
      · have g3 : ¬ brA A r = true := by simp [brA, g2]
        rw [if_neg g2] at e4
        simp (maxSteps := 3000000) (disch := omega) only [mX9_countBroken_l4, mX9_countBroken_b37, lK56 L, e1, e2, td, e3, n10, e4, g3, s1_of, ↓o_bind, o_map, ↓b_rcv, ↓b_gI, ↓b_gL, ↓b_gR, ↓b_gN, ↓b_pI, ↓b_pL, ↓b_pR, ↓b_gAI, ↓b_gAL, ↓b_gAR, ↓b_pAI, ↓b_pAL, bad_of, bad_l, Bool.false_eq_true, ↓reduceIte, Int32.reduceLT, Int32.reduceLE, Int32.reduceToNatClampNeg, Int32.reduceOfNat, Int32.reduceAdd, Int32.reduceSub, Int32.reduceMul, Nat.reduceAdd, Nat.reduceMul, Nat.reduceEqDiff]
    · rw [if_neg g1] at e3
      have g3 : ¬ brA A r = true := by simp [brA, g1]
      obtain ⟨h3, e5, S2⟩ := ih fu (r + 1) h a C (by omega) (by omega)
      refine ⟨h3, ?_, S2⟩
      rw [cntF_s, if_neg g3, ← e5]
      rw [mX9_countBroken_l4, b_gI, if_pos (lK56 L), e1, if_neg e2, b_gI, if_pos (lK56 L), td, b_rcv, if_pos (lK56 L), e3, o_bind, if_pos rfl, mX9_countBroken_b37, s1_of]
theorem r_cnt {m b : Nat} {A : AS} (W : WA A) : ∀ (q fu r : Nat) (h : MHp) (a : Int32), RQ m b (aN A 2) h A → r + q = aN A 2 → q < fu → ∃ h' : MHp, mX16_count_l123 fu h m a (Int32.ofNat r) = some (cntF (brA A) q r a, h') ∧ Rs m h h' := by
  intro q
  have h60 := W.2.2.2.1
  induction q with
  | zero =>
    intro fu r h a Q hr hf
    obtain ⟨fu, rfl⟩ : ∃ g : Nat, fu = g + 1 := ⟨fu - 1, by omega⟩
    have L := Q.1.1
    have e1 := Q.2.2.2.2.1
    have e2 : Int32.ofNat (aN A 2) ≤ Int32.ofNat r := by rw [le_of (by omega) (by omega)]; omega
    exact ⟨h, by rw [mX16_count_l123, b_gI, if_pos (qK0 L), e1, if_pos e2, cntF_0], Rs.rf⟩
  | succ q ih =>
    intro fu r h a Q hr hf
    obtain ⟨fu, rfl⟩ : ∃ g : Nat, fu = g + 1 := ⟨fu - 1, by omega⟩
    have L := Q.1.1
    have e1 := Q.2.2.2.2.1
    have td := Q.2.2.2.2.2.2.1
    have e2 : ¬ Int32.ofNat (aN A 2) ≤ Int32.ofNat r := by rw [le_of (by omega) (by omega)]; omega
    have e4 := q_loads (fil := 0) Q (show r < aN A 2 by omega) (by omega) (aS A 3) (k := 13) (Or.inl rfl)
    have S : Rs m h (sAI h (m + 13) (rD A r (aS A 3) 0 (hAI h (m + 13)))) := Rs.AI 13 _ (by decide)
    have hx : hAI (sAI h (m + 13) (rD A r (aS A 3) 0 (hAI h (m + 13)))) (m + 13) = rD A r (aS A 3) 0 (hAI h (m + 13)) := by rw [e_sAI, if_pos rfl]
    revert e4 S hx
    generalize sAI h (m + 13) (rD A r (aS A 3) 0 (hAI h (m + 13))) = h2
    intro e4 S hx
    have Q2 := Q.sc S
    have L2 := Q2.1.1
    have td2 := Q2.2.2.2.2.2.2.1
    have e3 := q_isThere Q2.1 h60 (show r < aN A 2 by omega) (aS A 3)
    obtain ⟨h3, e5, S2⟩ := ih fu (r + 1) h2 (if brA A r = true then a + 1 else a) Q2 (by omega) (by omega)
    refine ⟨h3, ?_, S.tr S2⟩
    rw [cntF_s, ← e5]
    have e40 : mX16_loads h m (Int32.ofNat r) (aS A 3) 0 (some (m + 13)) = some h2 := e4
    have z0 : a + 0 = a := Int32.add_zero a
    by_cases g1 : thA A r (aS A 3) = true
    · rw [if_pos g1] at e3
      have e6 := q_brokenRow Q2 (k := m + 13) (qK13 L2) (qN13 L2)
      have W4 := Q.2.2.2.1
      rw [hx, bB_rD W4] at e6
      have g5 := rb_if (x := vX A r (aS A 3) 0) W4
      have j1 := Q2.2.1
      have j2 := Q2.2.2.1.1.1
      have hle := bB_le (aB A) (vX A r (aS A 3) 0)
      by_cases g2 : bB (aB A) (vX A r (aS A 3) 0) = bN (aB A)
      · have g3 : ¬ brA A r = true := by simp [brA, g2]
        rw [if_neg (by omega)] at e6
        simp (maxSteps := 3000000) (disch := omega) only [mX16_count_l123, mX16_count_b177, mX16_count_b178, qK0 L, e1, e2, td, qR29 L, e40, qK0 L2, td2, e3, n10, j1, j2, qR29 L2, e6, g3, z0, s1_of, ↓o_bind, o_map, ↓b_rcv, ↓b_gI, ↓b_gL, ↓b_gR, ↓b_gN, ↓b_pI, ↓b_pL, ↓b_pR, ↓b_gAI, ↓b_gAL, ↓b_gAR, ↓b_pAI, ↓b_pAL, bad_of, bad_l, Bool.false_eq_true, ↓reduceIte, Int32.reduceLT, Int32.reduceLE, Int32.reduceToNatClampNeg, Int32.reduceOfNat, Int32.reduceAdd, Int32.reduceSub, Int32.reduceMul, Nat.reduceAdd, Nat.reduceMul, Nat.reduceEqDiff]
      · have g3 : brA A r = true := by simp [brA, g1]; omega
        simp (maxSteps := 3000000) (disch := omega) only [mX16_count_l123, mX16_count_b177, mX16_count_b178, qK0 L, e1, e2, td, qR29 L, e40, qK0 L2, td2, e3, n10, j1, j2, qR29 L2, e6, g5, g2, g3, s1_of, ↓o_bind, o_map, ↓b_rcv, ↓b_gI, ↓b_gL, ↓b_gR, ↓b_gN, ↓b_pI, ↓b_pL, ↓b_pR, ↓b_gAI, ↓b_gAL, ↓b_gAR, ↓b_pAI, ↓b_pAL, bad_of, bad_l, Bool.false_eq_true, ↓reduceIte, Int32.reduceLT, Int32.reduceLE, Int32.reduceToNatClampNeg, Int32.reduceOfNat, Int32.reduceAdd, Int32.reduceSub, Int32.reduceMul, Nat.reduceAdd, Nat.reduceMul, Nat.reduceEqDiff]
    · rw [if_neg g1] at e3
      have g3 : ¬ brA A r = true := by simp [brA, g1]
      rw [mX16_count_l123, b_gI, if_pos (qK0 L), e1, if_neg e2, b_gI, if_pos (qK0 L), td, b_gR, if_pos (qK0 L), qR29 L, b_rcv, if_pos (qK0 L), e40, o_bind, b_gI, if_pos (qK0 L2), td2, b_rcv, if_pos (qK0 L2), e3, o_bind, if_pos rfl, mX16_count_b177, mX16_count_b178, z0, s1_of, if_neg g3]
/-! mended, filled -/
def sncA (A : AS) (j r : Nat) : Bool := decide (aA A j r ≠ -2)
theorem c_snc {c j k : Nat} {h : MHp} {A : AS} (W : WA A) (L : CL c h) (e1 : hI h (c + 56) 6 = Int32.ofNat (aN A 2)) (hk : hK h k = 20) (hn : hN h k = 60) (ea : hAI h k = aA A j) : ∀ (q fu r : Nat) (a : Int32), r + q = aN A 2 → q < fu → mX9_countSince_l4 h fu (c + 56) (some k) a (Int32.ofNat r) = some (cntF (sncA A j) q r a) := by
  intro q
  have h60 := W.2.2.2.1
  induction q with
  | zero =>
    intro fu r a hr hf
    obtain ⟨fu, rfl⟩ : ∃ g : Nat, fu = g + 1 := ⟨fu - 1, by omega⟩
    have e2 : Int32.ofNat (aN A 2) ≤ Int32.ofNat r := by rw [le_of (by omega) (by omega)]; omega
    rw [mX9_countSince_l4, b_gI, if_pos (lK56 L), e1, if_pos e2, cntF_0]
  | succ q ih =>
    intro fu r a hr hf
    obtain ⟨fu, rfl⟩ : ∃ g : Nat, fu = g + 1 := ⟨fu - 1, by omega⟩
    have e2 : ¬ Int32.ofNat (aN A 2) ≤ Int32.ofNat r := by rw [le_of (by omega) (by omega)]; omega
    have e3 : ¬ (60 : Int32) ≤ Int32.ofNat r := by rw [show (60 : Int32) = Int32.ofNat 60 from rfl, le_of (by omega) (by omega)]; omega
    have e5 := ih fu (r + 1) (if sncA A j r = true then a + 1 else a) (by omega) (by omega)
    rw [cntF_s, ← e5]
    by_cases g : aA A j r = -2
    · have g3 : ¬ sncA A j r = true := by simp [sncA, g]
      simp (maxSteps := 3000000) (disch := omega) only [mX9_countSince_l4, mX9_countSince_b29, lK56 L, e1, e2, hk, hn, e3, cl_of, ea, g, g3, s1_of, ↓o_bind, o_map, ↓b_rcv, ↓b_gI, ↓b_gL, ↓b_gR, ↓b_gN, ↓b_pI, ↓b_pL, ↓b_pR, ↓b_gAI, ↓b_gAL, ↓b_gAR, ↓b_pAI, ↓b_pAL, bad_of, bad_l, Bool.false_eq_true, ↓reduceIte, Int32.reduceLT, Int32.reduceLE, Int32.reduceToNatClampNeg, Int32.reduceOfNat, Int32.reduceAdd, Int32.reduceSub, Int32.reduceMul, Nat.reduceAdd, Nat.reduceMul, Nat.reduceEqDiff]
    · have g3 : sncA A j r = true := by simp [sncA, g]
      simp (maxSteps := 3000000) (disch := omega) only [mX9_countSince_l4, mX9_countSince_b29, lK56 L, e1, e2, hk, hn, e3, cl_of, ea, g, g3, s1_of, ↓o_bind, o_map, ↓b_rcv, ↓b_gI, ↓b_gL, ↓b_gR, ↓b_gN, ↓b_pI, ↓b_pL, ↓b_pR, ↓b_gAI, ↓b_gAL, ↓b_gAR, ↓b_pAI, ↓b_pAL, bad_of, bad_l, Bool.false_eq_true, ↓reduceIte, Int32.reduceLT, Int32.reduceLE, Int32.reduceToNatClampNeg, Int32.reduceOfNat, Int32.reduceAdd, Int32.reduceSub, Int32.reduceMul, Nat.reduceAdd, Nat.reduceMul, Nat.reduceEqDiff]
theorem r_snc6 {m : Nat} {h : MHp} {A : AS} (W : WA A) (R : RR m h A) : ∀ (q fu r : Nat) (a : Int32), r + q = aN A 2 → q < fu → mX16_count_l190 fu h m a (Int32.ofNat r) = some (cntF (sncA A 3) q r a, h) := by
  intro q
  have h60 := W.2.2.2.1
  have L := R.1.1
  have e1 := R.2.1.2.2.1
  induction q with
  | zero =>
    intro fu r a hr hf
    obtain ⟨fu, rfl⟩ : ∃ g : Nat, fu = g + 1 := ⟨fu - 1, by omega⟩
    have e2 : Int32.ofNat (aN A 2) ≤ Int32.ofNat r := by rw [le_of (by omega) (by omega)]; omega
    rw [mX16_count_l190, b_gI, if_pos (qK0 L), e1, if_pos e2, cntF_0]
  | succ q ih =>
    intro fu r a hr hf
    obtain ⟨fu, rfl⟩ : ∃ g : Nat, fu = g + 1 := ⟨fu - 1, by omega⟩
    have e2 : ¬ Int32.ofNat (aN A 2) ≤ Int32.ofNat r := by rw [le_of (by omega) (by omega)]; omega
    have e5 := ih fu (r + 1) (if sncA A 3 r = true then a + 1 else a) (by omega) (by omega)
    have s2 := (R.2.2.1.2.2.2.2.2.1 r (by omega)).2.1
    have u7 := (W.2.2.2.2.2.2.2.2.2.1 r (by omega)).2.2.2.2.2.2.1
    have s4 := un2_m u7
    have z0 : a + 0 = a := Int32.add_zero a
    rw [cntF_s, ← e5]
    by_cases g : aA A 3 r = -2
    · have g3 : ¬ sncA A 3 r = true := by simp [sncA, g]
      rw [g] at s2
      simp (maxSteps := 3000000) (disch := omega) only [mX16_count_l190, mX16_count_b214, qK0 L, e1, e2, qR25 L, qK9 L, qN9 L, cl_of, s2, un22, g3, z0, s1_of, ↓o_bind, o_map, ↓b_rcv, ↓b_gI, ↓b_gL, ↓b_gR, ↓b_gN, ↓b_pI, ↓b_pL, ↓b_pR, ↓b_gAI, ↓b_gAL, ↓b_gAR, ↓b_pAI, ↓b_pAL, bad_of, bad_l, Bool.false_eq_true, ↓reduceIte, Int32.reduceLT, Int32.reduceLE, Int32.reduceToNatClampNeg, Int32.reduceOfNat, Int32.reduceAdd, Int32.reduceSub, Int32.reduceMul, Nat.reduceAdd, Nat.reduceMul, Nat.reduceEqDiff]
    · have g3 : sncA A 3 r = true := by simp [sncA, g]
      simp (maxSteps := 3000000) (disch := omega) only [mX16_count_l190, mX16_count_b214, qK0 L, e1, e2, qR25 L, qK9 L, qN9 L, cl_of, s2, s4, g, g3, s1_of, ↓o_bind, o_map, ↓b_rcv, ↓b_gI, ↓b_gL, ↓b_gR, ↓b_gN, ↓b_pI, ↓b_pL, ↓b_pR, ↓b_gAI, ↓b_gAL, ↓b_gAR, ↓b_pAI, ↓b_pAL, bad_of, bad_l, Bool.false_eq_true, ↓reduceIte, Int32.reduceLT, Int32.reduceLE, Int32.reduceToNatClampNeg, Int32.reduceOfNat, Int32.reduceAdd, Int32.reduceSub, Int32.reduceMul, Nat.reduceAdd, Nat.reduceMul, Nat.reduceEqDiff]
theorem r_snc7 {m : Nat} {h : MHp} {A : AS} (W : WA A) (R : RR m h A) : ∀ (q fu r : Nat) (a : Int32), r + q = aN A 2 → q < fu → mX16_count_l226 fu h m a (Int32.ofNat r) = some (cntF (sncA A 4) q r a, h) := by
  intro q
  have h60 := W.2.2.2.1
  have L := R.1.1
  have e1 := R.2.1.2.2.1
  induction q with
  | zero =>
    intro fu r a hr hf
    obtain ⟨fu, rfl⟩ : ∃ g : Nat, fu = g + 1 := ⟨fu - 1, by omega⟩
    have e2 : Int32.ofNat (aN A 2) ≤ Int32.ofNat r := by rw [le_of (by omega) (by omega)]; omega
    rw [mX16_count_l226, b_gI, if_pos (qK0 L), e1, if_pos e2, cntF_0]
  | succ q ih =>
    intro fu r a hr hf
    obtain ⟨fu, rfl⟩ : ∃ g : Nat, fu = g + 1 := ⟨fu - 1, by omega⟩
    have e2 : ¬ Int32.ofNat (aN A 2) ≤ Int32.ofNat r := by rw [le_of (by omega) (by omega)]; omega
    have e5 := ih fu (r + 1) (if sncA A 4 r = true then a + 1 else a) (by omega) (by omega)
    have s2 := (R.2.2.1.2.2.2.2.2.1 r (by omega)).2.2
    have u7 := (W.2.2.2.2.2.2.2.2.2.1 r (by omega)).2.2.2.2.2.2.2.1
    have s4 := un2_m u7
    have z0 : a + 0 = a := Int32.add_zero a
    rw [cntF_s, ← e5]
    by_cases g : aA A 4 r = -2
    · have g3 : ¬ sncA A 4 r = true := by simp [sncA, g]
      rw [g] at s2
      simp (maxSteps := 3000000) (disch := omega) only [mX16_count_l226, mX16_count_b250, qK0 L, e1, e2, qR27 L, qK11 L, qN11 L, cl_of, s2, un22, g3, z0, s1_of, ↓o_bind, o_map, ↓b_rcv, ↓b_gI, ↓b_gL, ↓b_gR, ↓b_gN, ↓b_pI, ↓b_pL, ↓b_pR, ↓b_gAI, ↓b_gAL, ↓b_gAR, ↓b_pAI, ↓b_pAL, bad_of, bad_l, Bool.false_eq_true, ↓reduceIte, Int32.reduceLT, Int32.reduceLE, Int32.reduceToNatClampNeg, Int32.reduceOfNat, Int32.reduceAdd, Int32.reduceSub, Int32.reduceMul, Nat.reduceAdd, Nat.reduceMul, Nat.reduceEqDiff]
    · have g3 : sncA A 4 r = true := by simp [sncA, g]
      simp (maxSteps := 3000000) (disch := omega) only [mX16_count_l226, mX16_count_b250, qK0 L, e1, e2, qR27 L, qK11 L, qN11 L, cl_of, s2, s4, g, g3, s1_of, ↓o_bind, o_map, ↓b_rcv, ↓b_gI, ↓b_gL, ↓b_gR, ↓b_gN, ↓b_pI, ↓b_pL, ↓b_pR, ↓b_gAI, ↓b_gAL, ↓b_gAR, ↓b_pAI, ↓b_pAL, bad_of, bad_l, Bool.false_eq_true, ↓reduceIte, Int32.reduceLT, Int32.reduceLE, Int32.reduceToNatClampNeg, Int32.reduceOfNat, Int32.reduceAdd, Int32.reduceSub, Int32.reduceMul, Nat.reduceAdd, Nat.reduceMul, Nat.reduceEqDiff]
theorem x_count {c m : Nat} {h : MHp} {A : AS} (C : CR c h A) (W : WA A) (w : Int32) : XS c m h A (mX11_count h c w) (fun h1 => mX16_count h1 m w) := by
  obtain ⟨b, G⟩ := C.rg W
  have L := C.l
  obtain ⟨-, g1, g2, g3, g4, g5, g6⟩ := id G
  have i1 := G.ib.1
  have one : ∀ v : Int32, mX11_count h c w = some (v, h) → (∀ h2 : MHp, RR m h2 A → mX16_count h2 m w = some (v, sI h2 m 0 0)) → XS c m h A (mX11_count h c w) (fun h1 => mX16_count h1 m w) :=
    fun v e1 e2 => ⟨v, A, W, ⟨h, e1, C, Oc.rf⟩, fun h1 R => ⟨_, e2 h1 R, R.th 0, Om.th 0⟩⟩
  by_cases q0 : w = 0
  · subst q0
    refine one (Int32.ofNat (bF (aB A))) ?_ (fun h2 R => ?_)
    · rw [mX11_count, if_pos rfl, b_gR, if_pos (lK0 L), lR0_2 L, b_gR, if_pos (lK56 L), g1, b_gI, if_pos i1, g3.1]
    · have R2 := R.th 0
      have M := R2.1.1
      by_cases hb : bF (aB A) = 0
      · have f1 := R2.bkN hb
        rw [mX16_count, b_pI, if_pos (qK0 R.1.1), if_pos rfl, b_gR, if_pos (qK0 M), f1, if_pos rfl, hb]; rfl
      · obtain ⟨b', Q⟩ := R2.rq W (by omega)
        have n1 : ¬ (some b' = (none : Option Nat)) := by intro e; cases e
        rw [mX16_count, b_pI, if_pos (qK0 R.1.1), if_pos rfl, b_gR, if_pos (qK0 M), Q.2.1, if_neg n1, b_gR, if_pos (qK0 M), Q.2.1, b_gI, if_pos Q.2.2.1.1.1, Q.2.2.1.2.1]
  by_cases q1 : w = 1
  · subst q1
    by_cases hb : bF (aB A) = 0
    · have b0 := (W.2.2.2.2.2.2.1 hb).2.2.2.2
      refine one 0 ?_ (fun h2 R => ?_)
      · rw [mX11_count, if_neg q0, if_pos rfl, b_gR, if_pos (lK0 L), lR0_2 L, b_gR, if_pos (lK56 L), g1, b_gI, if_pos i1, g3.2.1, b0]; rfl
      · have R2 := R.th 0
        have M := R2.1.1
        have f1 := R2.bkN hb
        rw [mX16_count, b_pI, if_pos (qK0 R.1.1), if_neg q0, if_pos rfl, b_gR, if_pos (qK0 M), f1, if_pos rfl]
    · refine one (Int32.ofNat (bN (aB A))) ?_ (fun h2 R => ?_)
      · rw [mX11_count, if_neg q0, if_pos rfl, b_gR, if_pos (lK0 L), lR0_2 L, b_gR, if_pos (lK56 L), g1, b_gI, if_pos i1, g3.2.1]
      · have R2 := R.th 0
        have M := R2.1.1
        obtain ⟨b', Q⟩ := R2.rq W (by omega)
        have n1 : ¬ (some b' = (none : Option Nat)) := by intro e; cases e
        rw [mX16_count, b_pI, if_pos (qK0 R.1.1), if_neg q0, if_pos rfl, b_gR, if_pos (qK0 M), Q.2.1, if_neg n1, b_gR, if_pos (qK0 M), Q.2.1, b_gI, if_pos Q.2.2.1.1.1, Q.2.2.1.2.2.1]
  by_cases q2 : w = 2
  · subst q2
    refine one (Int32.ofNat (aN A 2)) ?_ (fun h2 R => ?_)
    · rw [mX11_count, if_neg q0, if_neg q1, if_pos rfl, b_gR, if_pos (lK0 L), lR0_2 L, b_gI, if_pos (lK56 L), g5]
    · have R2 := R.th 0
      rw [mX16_count, b_pI, if_pos (qK0 R.1.1), if_neg q0, if_neg q1, if_pos rfl, b_gI, if_pos (qK0 R2.1.1), R2.2.1.2.2.1]
  by_cases q3 : w = 3
  · subst q3
    refine one (Int32.ofNat (aN A 1)) ?_ (fun h2 R => ?_)
    · rw [mX11_count, if_neg q0, if_neg q1, if_neg q2, if_pos rfl, b_gI, if_pos (lK0 L), C.2.1.2.1]
    · have R2 := R.th 0
      rw [mX16_count, b_pI, if_pos (qK0 R.1.1), if_neg q0, if_neg q1, if_neg q2, if_pos rfl, b_gI, if_pos (qK0 R2.1.1), R2.2.1.2.1]
  by_cases q4 : w = 4
  · subst q4
    refine one (aS A 3) ?_ (fun h2 R => ?_)
    · rw [mX11_count, if_neg q0, if_neg q1, if_neg q2, if_neg q3, if_pos rfl, b_gR, if_pos (lK0 L), lR0_2 L, b_gI, if_pos (lK56 L), C.td]
    · have R2 := R.th 0
      rw [mX16_count, b_pI, if_pos (qK0 R.1.1), if_neg q0, if_neg q1, if_neg q2, if_neg q3, if_pos rfl, b_gI, if_pos (qK0 R2.1.1), R2.2.1.2.2.2.2.2.2.2.1]
  by_cases q5 : w = 5
  · subst q5
    obtain ⟨h2, e1, S⟩ := c_cnt W (aN A 2) FUEL 0 h 0 C (by omega) (by have := W.2.2.2.1; unfold FUEL; omega)
    refine ⟨cntF (brA A) (aN A 2) 0 0, A, W, ⟨h2, ?_, C.sc W S, S.oc⟩, fun h1 R => ?_⟩
    · have e1' : mX9_countBroken h (c + 56) = some (cntF (brA A) (aN A 2) 0 0, h2) := e1
      rw [mX11_count, if_neg q0, if_neg q1, if_neg q2, if_neg q3, if_neg q4, if_pos rfl, b_gR, if_pos (lK0 L), lR0_2 L, b_rcv, if_pos (lK56 L), e1', o_bind]
    · have R2 := R.th 0
      by_cases hb : aN A 2 = 0
      · have e2 : Int32.ofNat (aN A 2) ≤ 0 := by rw [hb]; decide
        refine ⟨sI h1 m 0 0, ?_, R2, Om.th 0⟩
        show mX16_count h1 m 5 = _
        rw [mX16_count, b_pI, if_pos (qK0 R.1.1), if_neg q0, if_neg q1, if_neg q2, if_neg q3, if_neg q4, if_pos rfl]
        show mX16_count_l123 (3999999 + 1) _ _ _ _ = _
        rw [mX16_count_l123, b_gI, if_pos (qK0 R2.1.1), R2.2.1.2.2.1, if_pos e2, hb, cntF_0]
      · obtain ⟨b', Q⟩ := R2.rq W (W.pos (r := 0) (by omega))
        obtain ⟨h3, e3, S3⟩ := r_cnt W (aN A 2) FUEL 0 (sI h1 m 0 0) 0 Q (by omega) (by have := W.2.2.2.1; unfold FUEL; omega)
        refine ⟨h3, ?_, R2.sc S3, (Om.th 0).tr S3.om⟩
        show mX16_count h1 m 5 = _
        rw [mX16_count, b_pI, if_pos (qK0 R.1.1), if_neg q0, if_neg q1, if_neg q2, if_neg q3, if_neg q4, if_pos rfl]
        exact e3
  by_cases q6 : w = 6
  · subst q6
    have z := C.2.2.1.2.2.2.2.2.2.2.1
    have e1 := c_snc (j := 3) (k := c + 112) W L g5 (lK112 L) (lN112 L) z (aN A 2) FUEL 0 0 (by omega) (by have := W.2.2.2.1; unfold FUEL; omega)
    refine one (cntF (sncA A 3) (aN A 2) 0 0) ?_ (fun h2 R => ?_)
    · have e1' : mX9_countSince h (c + 56) (some (c + 112)) = some (cntF (sncA A 3) (aN A 2) 0 0) := e1
      rw [mX11_count, if_neg q0, if_neg q1, if_neg q2, if_neg q3, if_neg q4, if_neg q5, if_pos rfl, b_gR, if_pos (lK0 L), lR0_2 L, b_gR, if_pos (lK0 L), lR0_2 L, b_gR, if_pos (lK56 L), lR56_2 L, b_rcv, if_pos (lK56 L), e1', o_bind]
    · have R2 := R.th 0
      rw [mX16_count, b_pI, if_pos (qK0 R.1.1), if_neg q0, if_neg q1, if_neg q2, if_neg q3, if_neg q4, if_neg q5, if_pos rfl]
      exact r_snc6 W R2 (aN A 2) FUEL 0 0 (by omega) (by have := W.2.2.2.1; unfold FUEL; omega)
  by_cases q7 : w = 7
  · subst q7
    have z := C.2.2.1.2.2.2.2.2.2.2.2.1
    have e1 := c_snc (j := 4) (k := c + 113) W L g5 (lK113 L) (lN113 L) z (aN A 2) FUEL 0 0 (by omega) (by have := W.2.2.2.1; unfold FUEL; omega)
    refine one (cntF (sncA A 4) (aN A 2) 0 0) ?_ (fun h2 R => ?_)
    · have e1' : mX9_countSince h (c + 56) (some (c + 113)) = some (cntF (sncA A 4) (aN A 2) 0 0) := e1
      rw [mX11_count, if_neg q0, if_neg q1, if_neg q2, if_neg q3, if_neg q4, if_neg q5, if_neg q6, if_pos rfl, b_gR, if_pos (lK0 L), lR0_2 L, b_gR, if_pos (lK0 L), lR0_2 L, b_gR, if_pos (lK56 L), lR56_3 L, b_rcv, if_pos (lK56 L), e1', o_bind]
    · have R2 := R.th 0
      rw [mX16_count, b_pI, if_pos (qK0 R.1.1), if_neg q0, if_neg q1, if_neg q2, if_neg q3, if_neg q4, if_neg q5, if_neg q6, if_pos rfl]
      exact r_snc7 W R2 (aN A 2) FUEL 0 0 (by omega) (by have := W.2.2.2.1; unfold FUEL; omega)
  by_cases q8 : w = 8
  · subst q8
    obtain ⟨hd, hd1, hd0, -⟩ := C.2.2.2.2.2.1
    refine one (Int32.ofNat (aN A 3)) ?_ (fun h2 R => ?_)
    · rw [mX11_count, if_neg q0, if_neg q1, if_neg q2, if_neg q3, if_neg q4, if_neg q5, if_neg q6, if_neg q7, if_pos rfl, b_gR, if_pos (lK0 L), lR0_11 L, b_gI, if_pos (lK206 L), hd0]
    · have R2 := R.th 0
      rw [mX16_count, b_pI, if_pos (qK0 R.1.1), if_neg q0, if_neg q1, if_neg q2, if_neg q3, if_neg q4, if_neg q5, if_neg q6, if_neg q7, if_pos rfl, b_gI, if_pos (qK0 R2.1.1), R2.2.1.2.2.2.1]
  by_cases q9 : w = 9
  · subst q9
    have bd : bad 3 4 = false := by decide
    have cl : (3 : Int32).toNatClampNeg = 3 := rfl
    refine one (aS A 9) ?_ (fun h2 R => ?_)
    · rw [mX11_count, if_neg q0, if_neg q1, if_neg q2, if_neg q3, if_neg q4, if_neg q5, if_neg q6, if_neg q7, if_neg q8, if_pos rfl, b_gR, if_pos (lK0 L), lR0_5 L, b_gAI, if_pos (lK184 L), lN184 L, bd, if_neg (by decide), cl, C.2.2.1.2.2.2.1]
    · have R2 := R.th 0
      rw [mX16_count, b_pI, if_pos (qK0 R.1.1), if_neg q0, if_neg q1, if_neg q2, if_neg q3, if_neg q4, if_neg q5, if_neg q6, if_neg q7, if_neg q8, if_pos rfl, b_gI, if_pos (qK0 R2.1.1), R2.2.1.2.2.2.2.2.2.2.2.2.2.2.2.2]
  by_cases q10 : w = 10
  · subst q10
    refine one (Int32.ofNat (aN A 0)) ?_ (fun h2 R => ?_)
    · rw [mX11_count, if_neg q0, if_neg q1, if_neg q2, if_neg q3, if_neg q4, if_neg q5, if_neg q6, if_neg q7, if_neg q8, if_neg q9, if_pos rfl, b_gI, if_pos (lK0 L), C.2.1.1]
    · have R2 := R.th 0
      rw [mX16_count, b_pI, if_pos (qK0 R.1.1), if_neg q0, if_neg q1, if_neg q2, if_neg q3, if_neg q4, if_neg q5, if_neg q6, if_neg q7, if_neg q8, if_neg q9, if_pos rfl, b_gI, if_pos (qK0 R2.1.1), R2.2.1.1]
  · refine one (-1) ?_ (fun h2 R => ?_)
    · rw [mX11_count, if_neg q0, if_neg q1, if_neg q2, if_neg q3, if_neg q4, if_neg q5, if_neg q6, if_neg q7, if_neg q8, if_neg q9, if_neg q10]
    · rw [mX16_count, b_pI, if_pos (qK0 R.1.1), if_neg q0, if_neg q1, if_neg q2, if_neg q3, if_neg q4, if_neg q5, if_neg q6, if_neg q7, if_neg q8, if_neg q9, if_neg q10]

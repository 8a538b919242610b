/-! how many rows each cell has: the class -/
def cnQ (A : AS) (k cl r : Nat) : Bool := okA A r (aS A 3) 0 && decide (clA2 (aB A) (aP A k) (vX A r (aS A 3) 0) = Int32.ofNat cl)
def cnC (A : AS) (k cl : Nat) : Int32 := cntF (cnQ A k cl) (aN A 2) 0 0
theorem c_cr {c r k d : Nat} {h : MHp} {A : AS} (C : CR c h A) (W : WA A) (hk : k < aN A 1) (hd : d = 201 ∨ d = 202) (hr : r < aN A 2) : ∃ h1 : MHp, (∀ n : Nat, mX2_countRows_l7 (n + 1) h (c + 192) (some (c + 120 + 7 * k)) (some (c + d)) (Int32.ofNat r) = mX2_countRows_l7 n h1 (c + 192) (some (c + 120 + 7 * k)) (some (c + d)) (Int32.ofNat (r + 1))) ∧ Sc c h h1 ∧ (∀ cl : Nat, cl < 100 → hAI h1 (c + d) cl = if cnQ A k cl r = true then hAI h (c + d) cl + 1 else hAI h (c + d) cl) ∧ hI h1 = hI h ∧ ∀ a : Nat, a ≠ c + 193 → a ≠ c + d → hAI h1 a = hAI h a := by
  have L := C.l
  have h60 := W.2.2.2.1
  have e1 := C.2.1.2.2.2.2.2.1
  have td := C.td
  have e2 : ¬ Int32.ofNat (aN A 2) ≤ Int32.ofNat r := by rw [le_of (by omega) (by omega)]; omega
  obtain ⟨h2, e4, S, hx, i1, i2, i3, i4⟩ := p_looksAt3 C W hr (show 0 < 5 by omega) (aS A 3)
  have e4 : mX2_looksAt h (c + 192) (Int32.ofNat r) (aS A 3) 0 = some (if okA A r (aS A 3) 0 = true then 1 else 0, h2) := e4
  have C2 := C.sc W S
  have L2 := C2.l
  have kd : hK h2 (c + d) = 20 ∧ hN h2 (c + d) = 100 := by
    rcases hd with rfl | rfl
    · exact ⟨lK201 L2, lN201 L2⟩
    · exact ⟨lK202 L2, lN202 L2⟩
  have id0 : hAI h2 (c + d) = hAI h (c + d) := i4 _ (by omega)
  by_cases g : okA A r (aS A 3) 0 = true
  · rw [if_pos g] at e4
    obtain ⟨p1, p2, p3, p4, p5⟩ := C2.plan W hk
    have V : inV (aB A) (hAI h2 (c + 193)) := fun y hy => by rw [hx g y hy]; exact vA_in W hr (show 0 < 5 by omega) (aS A 3) y hy
    have e6 := p_cellOf p1 p3 W.1 p5 (lK193 L2) (lN193 L2) V
    rw [clA2_congr W.1 p5 (hx g)] at e6
    have base : ∀ n : Nat, mX2_countRows_l7 (n + 1) h (c + 192) (some (c + 120 + 7 * k)) (some (c + d)) (Int32.ofNat r) = (if clA2 (aB A) (aP A k) (vX A r (aS A 3) 0) < 0 then mX2_countRows_b64 (mX2_countRows_l7 n) h2 (c + 192) (some (c + 120 + 7 * k)) (some (c + d)) (Int32.ofNat r) else (gN 20 h2 (some (c + d))).bind fun x10 => (if x10 ≤ clA2 (aB A) (aP A k) (vX A r (aS A 3) 0) then mX2_countRows_b64 (mX2_countRows_l7 n) h2 (c + 192) (some (c + 120 + 7 * k)) (some (c + d)) (Int32.ofNat r) else (gAI 20 h2 (some (c + d)) (clA2 (aB A) (aP A k) (vX A r (aS A 3) 0))).bind fun x11 => (pAI 20 h2 (some (c + d)) (clA2 (aB A) (aP A k) (vX A r (aS A 3) 0)) (x11 + 1)).bind fun h12 => mX2_countRows_b64 (mX2_countRows_l7 n) h12 (c + 192) (some (c + 120 + 7 * k)) (some (c + d)) (Int32.ofNat r))) := fun n => by
      rw [mX2_countRows_l7, b_gR, if_pos (lK192 L), lR192_0 L, b_gI, if_pos (lK56 L), e1, if_neg e2, b_gR, if_pos (lK192 L), lR192_0 L, b_gI, if_pos (lK56 L), td, b_rcv, if_pos (lK192 L), e4, o_bind, if_neg n10, b_gR, if_pos (lK192 L2), lR192_1 L2, b_rcv, if_pos p1.1, e6, o_bind]
    rcases clA2_in p5 (vA_in W hr (show 0 < 5 by omega) (aS A 3)) with q | ⟨i, j, hi, hj, q⟩
    · refine ⟨h2, fun n => ?_, S, fun cl hcl => ?_, i1, fun a ha _ => i4 a ha⟩
      · rw [base, q, if_pos (by decide), mX2_countRows_b64, s1_of]
      · have : cnQ A k cl r = false := by
          have : ¬ (-1 : Int32) = Int32.ofNat cl := fun e => nm_of (by omega) e.symm
          simp [cnQ, q, this]
        rw [id0, this]; rfl
    · have hm := vs_mul W.1 p5.2.1 p5.2.2.1
      have hc := cell_lt hi hj
      obtain ⟨w, hw⟩ : ∃ w : Nat, w = i * vs (aB A) (pI2 (aP A k)) + j := ⟨_, rfl⟩
      rw [← hw] at q hc
      have c0 : ¬ Int32.ofNat w < 0 := by rw [nn_of (by omega)]; exact not_false
      have c3 : ¬ Int32.ofNat 100 ≤ Int32.ofNat w := by rw [le_of (by omega) (by omega)]; omega
      have bw := bad_n (k := w) (n := 100) (by omega) (by omega)
      have clw : (Int32.ofNat w).toNatClampNeg = w := cl_of (by omega)
      refine ⟨sAI h2 (c + d) (va_up (hAI h2 (c + d)) w (hAI h2 (c + d) w + 1)), fun n => ?_, S.tr (Sc.AI d _ (by rcases hd with rfl | rfl <;> decide)), fun cl hcl => ?_, i1, fun a h1 h2' => ?_⟩
      · rw [base, q, if_neg c0, b_gN, if_pos kd.1, kd.2, if_neg c3, b_gAI, if_pos kd.1, kd.2, if_neg bw, clw, b_pAI, if_pos kd.1, kd.2, if_neg bw, clw, mX2_countRows_b64, s1_of]
      · have ew : (Int32.ofNat w = Int32.ofNat cl) = (w = cl) := eq_of (by omega) (by omega)
        rw [e_sAI, if_pos rfl, e_up, id0]
        by_cases e : cl = w
        · have : cnQ A k cl r = true := by simp [cnQ, g, q, e]
          rw [if_pos e, if_pos this, e]
        · have : cnQ A k cl r = false := by
            have : ¬ w = cl := fun h => e h.symm
            simp only [cnQ, q, ew, this, decide_false, Bool.and_false]
          rw [if_neg e, this]; rfl
      · rw [e_sAI, if_neg h2']; exact i4 a h1
  · rw [if_neg g] at e4
    refine ⟨h2, fun n => ?_, S, fun cl hcl => ?_, i1, fun a ha _ => i4 a ha⟩
    · rw [mX2_countRows_l7, b_gR, if_pos (lK192 L), lR192_0 L, b_gI, if_pos (lK56 L), e1, if_neg e2, b_gR, if_pos (lK192 L), lR192_0 L, b_gI, if_pos (lK56 L), td, b_rcv, if_pos (lK192 L), e4, o_bind, if_pos rfl, mX2_countRows_b64, s1_of]
    · have : cnQ A k cl r = false := by simp [cnQ, g]
      rw [id0, this]; rfl
theorem c_crl {c k d : Nat} {A : AS} (W : WA A) (hk : k < aN A 1) (hd : d = 201 ∨ d = 202) : ∀ (q fu r : Nat) (h : MHp), CR c h A → r + q = aN A 2 → q < fu → ∃ h' : MHp, mX2_countRows_l7 fu h (c + 192) (some (c + 120 + 7 * k)) (some (c + d)) (Int32.ofNat r) = some h' ∧ Sc c h h' ∧ (∀ cl : Nat, cl < 100 → hAI h' (c + d) cl = cntF (cnQ A k cl) q r (hAI h (c + d) cl)) ∧ hI h' = hI h ∧ ∀ a : Nat, a ≠ c + 193 → a ≠ c + d → hAI h' a = hAI h a := by
  intro q
  have h60 := W.2.2.2.1
  induction q with
  | zero =>
    intro fu r h C hr hf2
    obtain ⟨fu, rfl⟩ : ∃ g : Nat, fu = g + 1 := ⟨fu - 1, by omega⟩
    have L := C.l
    have e1 := C.2.1.2.2.2.2.2.1
    have e2 : Int32.ofNat (aN A 2) ≤ Int32.ofNat r := by rw [le_of (by omega) (by omega)]; omega
    exact ⟨h, by rw [mX2_countRows_l7, b_gR, if_pos (lK192 L), lR192_0 L, b_gI, if_pos (lK56 L), e1, if_pos e2], Sc.rf, fun u hu => rfl, rfl, fun _ _ _ => rfl⟩
  | succ q ih =>
    intro fu r h C hr hf2
    obtain ⟨fu, rfl⟩ : ∃ g : Nat, fu = g + 1 := ⟨fu - 1, by omega⟩
    obtain ⟨h1, e1, S1, a1, a2, a3⟩ := c_cr C W hk hd (show r < aN A 2 by omega)
    obtain ⟨h2, e2, S2, b1, b2, b3⟩ := ih fu (r + 1) h1 (C.sc W S1) (by omega) (by omega)
    refine ⟨h2, by rw [e1, e2], S1.tr S2, fun cl hcl => ?_, b2.trans a2, fun a x y => (b3 a x y).trans (a3 a x y)⟩
    rw [b1 cl hcl, a1 cl hcl, cntF_s]
theorem p_countRows {c k d : Nat} {h : MHp} {A : AS} (C : CR c h A) (W : WA A) (hk : k < aN A 1) (hd : d = 201 ∨ d = 202) : ∃ h' : MHp, mX2_countRows h (c + 192) (some (c + 120 + 7 * k)) (some (c + d)) = some h' ∧ Sc c h h' ∧ (∀ cl : Nat, cl < 100 → hAI h' (c + d) cl = cnC A k cl) ∧ hI h' = hI h ∧ ∀ a : Nat, a ≠ c + 193 → a ≠ c + d → hAI h' a = hAI h a := by
  have L := C.l
  have h60 := W.2.2.2.1
  have kd : hK h (c + d) = 20 ∧ hN h (c + d) = 100 := by
    rcases hd with rfl | rfl
    · exact ⟨lK201 L, lN201 L⟩
    · exact ⟨lK202 L, lN202 L⟩
  obtain ⟨X, hX⟩ : ∃ X : MHp, X = sAI h (c + d) (fun j => if j < 100 then 0 else hAI h (c + d) j) := ⟨_, rfl⟩
  have f1 := j_fill (v := 0) kd.1 kd.2 (by omega)
  rw [← hX] at f1
  have SX : Sc c h X := by rw [hX]; exact Sc.AI d _ (by rcases hd with rfl | rfl <;> decide)
  have CX2 := C.sc W SX
  obtain ⟨h2, e2, S2, b1, b2, b3⟩ := c_crl W hk hd (aN A 2) FUEL 0 X CX2 (by omega) (by unfold FUEL; omega)
  refine ⟨h2, ?_, SX.tr S2, fun cl hcl => ?_, ?_, fun a x y => ?_⟩
  · rw [mX2_countRows, f1, o_bind, show (0 : Int32) = Int32.ofNat 0 from rfl, e2]
  · rw [b1 cl hcl, hX, e_sAI, if_pos rfl, if_pos hcl]; rfl
  · rw [b2, hX]; rfl
  · rw [b3 a x y, hX, e_sAI, if_neg y]
theorem p_open {c k : Nat} {h : MHp} {A : AS} (C : CR c h A) (W : WA A) (hk : k < aN A 1) : ∃ h' : MHp, mX3_open h (c + 200) (some (c + 120 + 7 * k)) = some h' ∧ Sc c h h' ∧ hI h' (c + 200) 6 = Int32.ofNat (vs (aB A) (pI1 (aP A k))) ∧ hI h' (c + 200) 7 = Int32.ofNat (vs (aB A) (pI2 (aP A k))) ∧ ∀ cl : Nat, cl < 100 → hAI h' (c + 201) cl = cnC A k cl := by
  have L := C.l
  have h8 := W.2.2.1
  obtain ⟨p1, p2, p3, p4, p5⟩ := C.plan W hk
  obtain ⟨X, hX⟩ : ∃ X : MHp, X = sI h (c + 200) 6 (Int32.ofNat (vs (aB A) (pI1 (aP A k)))) := ⟨_, rfl⟩
  obtain ⟨Y, hY⟩ : ∃ Y : MHp, Y = sI X (c + 200) 7 (Int32.ofNat (vs (aB A) (pI2 (aP A k)))) := ⟨_, rfl⟩
  have SX : Sc c h X := by rw [hX]; exact Sc.I 200 6 _ (by decide)
  have SY : Sc c X Y := by rw [hY]; exact Sc.I 200 7 _ (by decide)
  have CX2 := C.sc W SX
  have CY := CX2.sc W SY
  obtain ⟨-, -, q3, -, -⟩ := CX2.plan W hk
  have LX := CX2.l
  have LY := CY.l
  obtain ⟨h2, e2, S2, b1, b2, b3⟩ := p_countRows CY W hk (Or.inl rfl)
  have kX : hK X (c + 120 + 7 * k) = 8 := (CX2.plan W hk).1.1
  refine ⟨h2, ?_, (SX.tr SY).tr S2, ?_, ?_, b1⟩
  · rw [mX3_open, b_gI, if_pos p1.1, p3.2.2.2.1, b_pI, if_pos (lK200 L), ← hX, b_gI, if_pos kX, q3.2.2.2.2.1, b_pI, if_pos (lK200 LX), ← hY, b_gR, if_pos (lK200 LY), lR200_0 LY, b_gR, if_pos (lK200 LY), lR200_1 LY, b_rcv, if_pos (lK192 LY), e2, o_bind]
  · rw [b2, hY, e_sI, if_neg (by omega), hX, e_sI, if_pos ⟨rfl, rfl⟩]
  · rw [b2, hY, e_sI, if_pos ⟨rfl, rfl⟩]
/-! how many rows each cell has: the reference -/
theorem q_isIn2 {m b n r fil p : Nat} {h : MHp} {A : AS} {P : Pl} {i j : Int32} (Q : RQ m b n h A) (hr : r < n) (hfil : fil < 5) (d : Int32) (hP : RP (m + 26) h p P) (W : WP (aB A) P) : ∃ h' : MHp, mX16_isIn h m (some p) (Int32.ofNat r) i j d (Int32.ofNat fil) = some (if (okA A r d fil && inP P (vX A r d fil) i j) = true then 1 else 0, h') ∧ (Rs m h h' ∧ hI h' = hI h ∧ ∀ a : Nat, a ≠ m + 13 → hAI h' a = hAI h a) ∧ (okA A r d fil = true → hAI h' (m + 13) = rD A r d fil (hAI h (m + 13))) := by
  have L := Q.1.1
  have e0 := qK0 L
  have e1 := q_isThere Q.1 Q.2.2.2.2.2.1 hr d
  by_cases g1 : thA A r d = true
  · have e2 := q_loads Q hr hfil d (k := 13) (Or.inl rfl)
    have S : Rs m h (sAI h (m + 13) (rD A r d fil (hAI h (m + 13)))) := Rs.AI 13 _ (by decide)
    have hx : hAI (sAI h (m + 13) (rD A r d fil (hAI h (m + 13)))) (m + 13) = rD A r d fil (hAI h (m + 13)) := by rw [e_sAI, if_pos rfl]
    have Q2 := Q.sc S
    have hI2 : hI (sAI h (m + 13) (rD A r d fil (hAI h (m + 13)))) = hI h ∧ ∀ a : Nat, a ≠ m + 13 → hAI (sAI h (m + 13) (rD A r d fil (hAI h (m + 13)))) a = hAI h a := ⟨rfl, fun a ha => va_ne _ _ ha⟩
    have hP2 : RP (m + 26) (sAI h (m + 13) (rD A r d fil (hAI h (m + 13)))) p P := hP.ag (S.out (Or.inr (by omega))) (Nat.le_refl _)
    have L2 := Q2.1.1
    revert e2 S hx Q2 hI2 hP2 L2
    generalize sAI h (m + 13) (rD A r d fil (hAI h (m + 13))) = h2
    intro e2 S hx Q2 hI2 hP2 L2
    refine ⟨h2, ?_, ⟨S, hI2⟩, fun _ => hx⟩
    have W4 := Q.2.2.2.1
    have e3 := q_brokenRow Q2 (k := m + 13) (qK13 L2) (qN13 L2)
    rw [hx, bB_rD W4] at e3
    have j1 := Q2.2.1
    have j2 := Q2.2.2.1.1.1
    have f0 := qK0 L2
    have f1 := qR29 L2
    have f2 := qK13 L2
    have f3 := qN13 L2
    have g3 := rb_if (x := vX A r d fil) W4
    obtain ⟨p1, p2, p3, p4, -, p5⟩ := hP2
    obtain ⟨w1, w2, w3, w4, w5⟩ := W
    have hB := W4.1
    have xe : ∀ f : Nat, f < bF (aB A) → rD A r d fil (hAI h (m + 13)) f = vX A r d fil f := fun f hf => by simp only [rD, vX, if_pos hf]
    by_cases g2 : bB (aB A) (vX A r d fil) = bN (aB A)
    · have ok : okA A r d fil = true := by simp [okA, g1, g2]
      -- what comes behind the test
      have b106 : mX16_isIn_b106 h2 m (some p) = some (if oq (pS P) (fun f => decide (vX A r d fil f ≠ -1)) = true then 1 else 0, h2) := by
        cases e : pS P with
        | none =>
          rw [e] at p2
          have p2' : hI h2 p 0 = -1 := p2
          simp (maxSteps := 3000000) (disch := omega) only [mX16_isIn_b106, p1.1, p2', ↓o_bind, o_map, ↓b_rcv, ↓b_gI, ↓b_gL, ↓b_gR, ↓b_gN, ↓b_pI, ↓b_pL, ↓b_pR, ↓b_gAI, ↓b_gAL, ↓b_gAR, ↓b_pAI, ↓b_pAL, bad_of, bad_l, Bool.false_eq_true, ↓reduceIte, Int32.reduceLT, Int32.reduceLE, Int32.reduceToNatClampNeg, Int32.reduceOfNat, Int32.reduceAdd, Int32.reduceSub, Int32.reduceMul, Nat.reduceAdd, Nat.reduceMul, Nat.reduceEqDiff]
          simp [oq_n]
        | some f =>
          have hf := w1 f e
          obtain ⟨o1, o2⟩ := oi_m e (by omega)
          rw [o1] at p2 o2
          by_cases g5 : vX A r d fil f = -1
          · simp (maxSteps := 3000000) (disch := omega) only [mX16_isIn_b106, p1.1, p2, o2, f0, f1, f2, f3, cl_of, hx, xe f hf, g5, ↓o_bind, o_map, ↓b_rcv, ↓b_gI, ↓b_gL, ↓b_gR, ↓b_gN, ↓b_pI, ↓b_pL, ↓b_pR, ↓b_gAI, ↓b_gAL, ↓b_gAR, ↓b_pAI, ↓b_pAL, bad_of, bad_l, Bool.false_eq_true, ↓reduceIte, Int32.reduceLT, Int32.reduceLE, Int32.reduceToNatClampNeg, Int32.reduceOfNat, Int32.reduceAdd, Int32.reduceSub, Int32.reduceMul, Nat.reduceAdd, Nat.reduceMul, Nat.reduceEqDiff]
            simp [oq_s, g5]
          · simp (maxSteps := 3000000) (disch := omega) only [mX16_isIn_b106, p1.1, p2, o2, f0, f1, f2, f3, cl_of, hx, xe f hf, g5, ↓o_bind, o_map, ↓b_rcv, ↓b_gI, ↓b_gL, ↓b_gR, ↓b_gN, ↓b_pI, ↓b_pL, ↓b_pR, ↓b_gAI, ↓b_gAL, ↓b_gAR, ↓b_pAI, ↓b_pAL, bad_of, bad_l, Bool.false_eq_true, ↓reduceIte, Int32.reduceLT, Int32.reduceLE, Int32.reduceToNatClampNeg, Int32.reduceOfNat, Int32.reduceAdd, Int32.reduceSub, Int32.reduceMul, Nat.reduceAdd, Nat.reduceMul, Nat.reduceEqDiff]
            simp [oq_s, g5]
      have b84 : mX16_isIn_b84 h2 m (some p) j = some (if (oq (pI2 P) (fun f => decide (vX A r d fil f = j)) && oq (pS P) (fun f => decide (vX A r d fil f ≠ -1))) = true then 1 else 0, h2) := by
        cases e : pI2 P with
        | none =>
          rw [e] at p4
          have p4' : hI h2 p 2 = -1 := p4
          simp (maxSteps := 3000000) (disch := omega) only [mX16_isIn_b84, p1.1, p4', b106, ↓o_bind, o_map, ↓b_rcv, ↓b_gI, ↓b_gL, ↓b_gR, ↓b_gN, ↓b_pI, ↓b_pL, ↓b_pR, ↓b_gAI, ↓b_gAL, ↓b_gAR, ↓b_pAI, ↓b_pAL, bad_of, bad_l, Bool.false_eq_true, ↓reduceIte, Int32.reduceLT, Int32.reduceLE, Int32.reduceToNatClampNeg, Int32.reduceOfNat, Int32.reduceAdd, Int32.reduceSub, Int32.reduceMul, Nat.reduceAdd, Nat.reduceMul, Nat.reduceEqDiff]
          simp [oq_n]
        | some f =>
          have hf := w3 f e
          obtain ⟨o1, o2⟩ := oi_m e (by omega)
          rw [o1] at p4 o2
          by_cases g5 : vX A r d fil f = j
          · simp (maxSteps := 3000000) (disch := omega) only [mX16_isIn_b84, p1.1, p4, o2, f0, f1, f2, f3, cl_of, hx, xe f hf, g5, b106, ↓o_bind, o_map, ↓b_rcv, ↓b_gI, ↓b_gL, ↓b_gR, ↓b_gN, ↓b_pI, ↓b_pL, ↓b_pR, ↓b_gAI, ↓b_gAL, ↓b_gAR, ↓b_pAI, ↓b_pAL, bad_of, bad_l, Bool.false_eq_true, ↓reduceIte, Int32.reduceLT, Int32.reduceLE, Int32.reduceToNatClampNeg, Int32.reduceOfNat, Int32.reduceAdd, Int32.reduceSub, Int32.reduceMul, Nat.reduceAdd, Nat.reduceMul, Nat.reduceEqDiff]
            simp [oq_s, g5]
          · simp (maxSteps := 3000000) (disch := omega) only [mX16_isIn_b84, p1.1, p4, o2, f0, f1, f2, f3, cl_of, hx, xe f hf, g5, ↓o_bind, o_map, ↓b_rcv, ↓b_gI, ↓b_gL, ↓b_gR, ↓b_gN, ↓b_pI, ↓b_pL, ↓b_pR, ↓b_gAI, ↓b_gAL, ↓b_gAR, ↓b_pAI, ↓b_pAL, bad_of, bad_l, Bool.false_eq_true, ↓reduceIte, Int32.reduceLT, Int32.reduceLE, Int32.reduceToNatClampNeg, Int32.reduceOfNat, Int32.reduceAdd, Int32.reduceSub, Int32.reduceMul, Nat.reduceAdd, Nat.reduceMul, Nat.reduceEqDiff]
            simp [oq_s, g5]
      have b63 : mX16_isIn_b63 h2 m (some p) i j = some (if (oq (pI1 P) (fun f => decide (vX A r d fil f = i)) && (oq (pI2 P) (fun f => decide (vX A r d fil f = j)) && oq (pS P) (fun f => decide (vX A r d fil f ≠ -1)))) = true then 1 else 0, h2) := by
        cases e : pI1 P with
        | none =>
          rw [e] at p3
          have p3' : hI h2 p 1 = -1 := p3
          simp (maxSteps := 3000000) (disch := omega) only [mX16_isIn_b63, p1.1, p3', b84, ↓o_bind, o_map, ↓b_rcv, ↓b_gI, ↓b_gL, ↓b_gR, ↓b_gN, ↓b_pI, ↓b_pL, ↓b_pR, ↓b_gAI, ↓b_gAL, ↓b_gAR, ↓b_pAI, ↓b_pAL, bad_of, bad_l, Bool.false_eq_true, ↓reduceIte, Int32.reduceLT, Int32.reduceLE, Int32.reduceToNatClampNeg, Int32.reduceOfNat, Int32.reduceAdd, Int32.reduceSub, Int32.reduceMul, Nat.reduceAdd, Nat.reduceMul, Nat.reduceEqDiff]
          simp [oq_n]
        | some f =>
          have hf := w2 f e
          obtain ⟨o1, o2⟩ := oi_m e (by omega)
          rw [o1] at p3 o2
          by_cases g5 : vX A r d fil f = i
          · simp (maxSteps := 3000000) (disch := omega) only [mX16_isIn_b63, p1.1, p3, o2, f0, f1, f2, f3, cl_of, hx, xe f hf, g5, b84, ↓o_bind, o_map, ↓b_rcv, ↓b_gI, ↓b_gL, ↓b_gR, ↓b_gN, ↓b_pI, ↓b_pL, ↓b_pR, ↓b_gAI, ↓b_gAL, ↓b_gAR, ↓b_pAI, ↓b_pAL, bad_of, bad_l, Bool.false_eq_true, ↓reduceIte, Int32.reduceLT, Int32.reduceLE, Int32.reduceToNatClampNeg, Int32.reduceOfNat, Int32.reduceAdd, Int32.reduceSub, Int32.reduceMul, Nat.reduceAdd, Nat.reduceMul, Nat.reduceEqDiff]
            simp [oq_s, g5]
          · simp (maxSteps := 3000000) (disch := omega) only [mX16_isIn_b63, p1.1, p3, o2, f0, f1, f2, f3, cl_of, hx, xe f hf, g5, ↓o_bind, o_map, ↓b_rcv, ↓b_gI, ↓b_gL, ↓b_gR, ↓b_gN, ↓b_pI, ↓b_pL, ↓b_pR, ↓b_gAI, ↓b_gAL, ↓b_gAR, ↓b_pAI, ↓b_pAL, bad_of, bad_l, Bool.false_eq_true, ↓reduceIte, Int32.reduceLT, Int32.reduceLE, Int32.reduceToNatClampNeg, Int32.reduceOfNat, Int32.reduceAdd, Int32.reduceSub, Int32.reduceMul, Nat.reduceAdd, Nat.reduceMul, Nat.reduceEqDiff]
            simp [oq_s, g5]
      rcases p5 with ⟨t1, t2⟩ | ⟨t, t1, -, -, t2⟩
      · have th : tH (pW P) (vX A r d fil) = true := by unfold tH; rw [t1]; exact allF_0 _ _
        simp (maxSteps := 3000000) (disch := omega) only [mX16_isIn, e0, e1, g1, qR29 L, e2, f0, f1, j1, j2, e3, g3, g2, p1.1, t2, b63, ↓o_bind, o_map, ↓b_rcv, ↓b_gI, ↓b_gL, ↓b_gR, ↓b_gN, ↓b_pI, ↓b_pL, ↓b_pR, ↓b_gAI, ↓b_gAL, ↓b_gAR, ↓b_pAI, ↓b_pAL, bad_of, bad_l, Bool.false_eq_true, ↓reduceIte, Int32.reduceLT, Int32.reduceLE, Int32.reduceToNatClampNeg, Int32.reduceOfNat, Int32.reduceAdd, Int32.reduceSub, Int32.reduceMul, Nat.reduceAdd, Nat.reduceMul, Nat.reduceEqDiff]
        simp [ok, inP, th]
      · have e5 := q_holds t2 w5 hB f2 f3
        rw [hx] at e5
        have e6 : tH (pW P) (rD A r d fil (hAI h (m + 13))) = tH (pW P) (vX A r d fil) := tH_congr w5 hB xe
        rw [e6] at e5
        have n1 : ¬ (some t = (none : Option Nat)) := by intro e; cases e
        have n2 := t2.1.1
        by_cases th : tH (pW P) (vX A r d fil) = true
        · simp (maxSteps := 3000000) (disch := omega) only [mX16_isIn, e0, e1, g1, qR29 L, e2, f0, f1, j1, j2, e3, g3, g2, p1.1, t1, n1, n2, e5, th, b63, ↓o_bind, o_map, ↓b_rcv, ↓b_gI, ↓b_gL, ↓b_gR, ↓b_gN, ↓b_pI, ↓b_pL, ↓b_pR, ↓b_gAI, ↓b_gAL, ↓b_gAR, ↓b_pAI, ↓b_pAL, bad_of, bad_l, Bool.false_eq_true, ↓reduceIte, Int32.reduceLT, Int32.reduceLE, Int32.reduceToNatClampNeg, Int32.reduceOfNat, Int32.reduceAdd, Int32.reduceSub, Int32.reduceMul, Nat.reduceAdd, Nat.reduceMul, Nat.reduceEqDiff]
          simp [ok, inP, th]
        · simp (maxSteps := 3000000) (disch := omega) only [mX16_isIn, e0, e1, g1, qR29 L, e2, f0, f1, j1, j2, e3, g3, g2, p1.1, t1, n1, n2, e5, th, ↓o_bind, o_map, ↓b_rcv, ↓b_gI, ↓b_gL, ↓b_gR, ↓b_gN, ↓b_pI, ↓b_pL, ↓b_pR, ↓b_gAI, ↓b_gAL, ↓b_gAR, ↓b_pAI, ↓b_pAL, bad_of, bad_l, Bool.false_eq_true, ↓reduceIte, Int32.reduceLT, Int32.reduceLE, Int32.reduceToNatClampNeg, Int32.reduceOfNat, Int32.reduceAdd, Int32.reduceSub, Int32.reduceMul, Nat.reduceAdd, Nat.reduceMul, Nat.reduceEqDiff]
          simp [ok, inP, th]
    · simp (maxSteps := 3000000) (disch := omega) only [mX16_isIn, e0, e1, g1, qR29 L, e2, f0, f1, j1, j2, e3, g3, g2, ↓o_bind, o_map, ↓b_rcv, ↓b_gI, ↓b_gL, ↓b_gR, ↓b_gN, ↓b_pI, ↓b_pL, ↓b_pR, ↓b_gAI, ↓b_gAL, ↓b_gAR, ↓b_pAI, ↓b_pAL, bad_of, bad_l, Bool.false_eq_true, ↓reduceIte, Int32.reduceLT, Int32.reduceLE, Int32.reduceToNatClampNeg, Int32.reduceOfNat, Int32.reduceAdd, Int32.reduceSub, Int32.reduceMul, Nat.reduceAdd, Nat.reduceMul, Nat.reduceEqDiff]
      simp [okA, g2]
  · refine ⟨h, ?_, ⟨Rs.rf, rfl, fun _ _ => rfl⟩, fun hh => by simp [okA, g1] at hh⟩
    rw [if_neg g1] at e1
    unfold mX16_isIn
    rw [b_rcv, if_pos e0, e1, o_bind, if_pos rfl]
    simp [okA, g1]
theorem cnQ_in {A : AS} {k cl r : Nat} (W : WA A) (hk : k < aN A 1) (hcl : cl < vs (aB A) (pI1 (aP A k)) * vs (aB A) (pI2 (aP A k))) (hr : r < aN A 2) : cnQ A k cl r = (okA A r (aS A 3) 0 && inP (aP A k) (vX A r (aS A 3) 0) (Int32.ofNat (cl / vs (aB A) (pI2 (aP A k)))) (Int32.ofNat (cl % vs (aB A) (pI2 (aP A k))))) := by
  have WPk := W.2.2.2.2.2.1 k hk
  have b2 := vs_le W.1 WPk.2.2.1
  have hi : cl / vs (aB A) (pI2 (aP A k)) < vs (aB A) (pI1 (aP A k)) := (Nat.div_lt_iff_lt_mul (by omega)).mpr hcl
  have hj : cl % vs (aB A) (pI2 (aP A k)) < vs (aB A) (pI2 (aP A k)) := Nat.mod_lt _ (by omega)
  have e := clA2_iff W.1 WPk (vA_in W hr (show 0 < 5 by omega) (aS A 3)) hi hj
  have e2 : cl / vs (aB A) (pI2 (aP A k)) * vs (aB A) (pI2 (aP A k)) + cl % vs (aB A) (pI2 (aP A k)) = cl := by
    have := Nat.div_add_mod cl (vs (aB A) (pI2 (aP A k)))
    rw [Nat.mul_comm] at this
    exact this
  rw [e2] at e
  unfold cnQ
  congr 1
  by_cases y : inP (aP A k) (vX A r (aS A 3) 0) (Int32.ofNat (cl / vs (aB A) (pI2 (aP A k)))) (Int32.ofNat (cl % vs (aB A) (pI2 (aP A k)))) = true
  · rw [y, decide_eq_true (e.mpr y)]
  · rw [decide_eq_false (fun h => y (e.mp h))]
    exact (Bool.eq_false_iff.mpr y).symm
/-- what the counting knows of the heap it works in -/
def Cg (m k p b d : Nat) (h : MHp) (A : AS) : Prop := RQ m b (aN A 2) h A ∧ RP (m + 26) h p (aP A k) ∧ hI h m 45 = Int32.ofNat (vs (aB A) (pI1 (aP A k))) ∧ hI h m 46 = Int32.ofNat (vs (aB A) (pI2 (aP A k))) ∧ hK h (m + d) = 20 ∧ hN h (m + d) = 100
theorem Cg.sc {m k p b d : Nat} {h h' : MHp} {A : AS} (C : Cg m k p b d h A) (S : Rs m h h') (i : hI h' = hI h) : Cg m k p b d h' A := by
  obtain ⟨c1, c2, c3, c4, c5, c6⟩ := C
  exact ⟨c1.sc S, c2.ag (S.out (Or.inr (by omega))) (by rw [S.2.2.2.2.1]; omega), by rw [i]; exact c3, by rw [i]; exact c4, by rw [S.1]; exact c5, by rw [S.2.1]; exact c6⟩
theorem q_ct {m k p b d cl r : Nat} {h : MHp} {A : AS} (C : Cg m k p b d h A) (W : WA A) (hd : d = 19 ∨ d = 20) (hk : k < aN A 1) (hcl : cl < vs (aB A) (pI1 (aP A k)) * vs (aB A) (pI2 (aP A k))) (hr : r < aN A 2) : ∃ h1 : MHp, (∀ (n : Nat) (k51 : MHp → Nat → Option Nat → Option Nat → Int32 → Option (MHp)), mX16_counts_l62 k51 (n + 1) h m (some p) (some (m + d)) (Int32.ofNat r) (Int32.ofNat cl) = mX16_counts_l62 k51 n h1 m (some p) (some (m + d)) (Int32.ofNat r) (Int32.ofNat (cl + 1))) ∧ Rs m h h1 ∧ hI h1 = hI h ∧ hAI h1 (m + d) = va_up (hAI h (m + d)) cl (hAI h (m + d) cl + (if cnQ A k cl r = true then 1 else 0)) ∧ ∀ a : Nat, a ≠ m + 13 → a ≠ m + d → hAI h1 a = hAI h a := by
  obtain ⟨Q, P, x45, x46, kd, nd⟩ := C
  have L := Q.1.1
  have K := qK0 L
  have WPk := W.2.2.2.2.2.1 k hk
  have hm := vs_mul W.1 WPk.2.1 WPk.2.2.1
  have b1 := vs_le W.1 WPk.2.1
  have b2 := vs_le W.1 WPk.2.2.1
  have td := Q.2.2.2.2.2.2.1
  obtain ⟨h2, f1, ⟨S, i0, i4⟩, f2⟩ := q_isIn2 (i := Int32.ofNat (cl / vs (aB A) (pI2 (aP A k)))) (j := Int32.ofNat (cl % vs (aB A) (pI2 (aP A k)))) Q hr (show 0 < 5 by omega) (aS A 3) P WPk
  rw [← cnQ_in W hk hcl hr] at f1
  have f1 : mX16_isIn h m (some p) (Int32.ofNat r) (Int32.ofNat (cl / vs (aB A) (pI2 (aP A k)))) (Int32.ofNat (cl % vs (aB A) (pI2 (aP A k)))) (aS A 3) 0 = some (if cnQ A k cl r = true then 1 else 0, h2) := f1
  have c0 : ¬ Int32.ofNat (vs (aB A) (pI1 (aP A k))) * Int32.ofNat (vs (aB A) (pI2 (aP A k))) ≤ Int32.ofNat cl := by rw [← Int32.ofNat_mul, le_of (by omega) (by omega)]; omega
  have bw := bad_n (k := cl) (n := 100) (by omega) (by omega)
  have clw : (Int32.ofNat cl).toNatClampNeg = cl := cl_of (by omega)
  have z : ¬ Int32.ofNat (vs (aB A) (pI2 (aP A k))) = 0 := by rw [show (0 : Int32) = Int32.ofNat 0 from rfl, eq_of (by omega) (by omega)]; omega
  have kd2 : hK h2 (m + d) = 20 := by rw [S.1]; exact kd
  have nd2 : hN h2 (m + d) = 100 := by rw [S.2.1]; exact nd
  have id0 : hAI h2 (m + d) = hAI h (m + d) := i4 _ (by omega)
  refine ⟨sAI h2 (m + d) (va_up (hAI h2 (m + d)) cl (hAI h (m + d) cl + (if cnQ A k cl r = true then 1 else 0))), fun n k51 => ?_, S.tr (Rs.AI d _ (by rcases hd with rfl | rfl <;> decide)), i0, ?_, fun a x y => ?_⟩
  · rw [mX16_counts_l62, b_gI, if_pos K, x45, b_gI, if_pos K, x46, if_neg c0, b_gAI, if_pos kd, nd, if_neg bw, clw, b_gI, if_pos K, x46, nz, if_neg z, o_bind, b_gI, if_pos K, x46, nz, if_neg z, o_bind, b_gI, if_pos K, td, b_rcv, if_pos K, md_of (by omega) (by omega), dv_of (by omega) (by omega), f1, o_bind]
    by_cases g : cnQ A k cl r = true
    · rw [if_pos g, if_neg n10, mX16_counts_b114, b_pAI, if_pos kd2, nd2, if_neg bw, clw, s1_of]
    · rw [if_neg g, if_pos rfl, mX16_counts_b114, b_pAI, if_pos kd2, nd2, if_neg bw, clw, s1_of]
  · rw [e_sAI, if_pos rfl, id0]
  · rw [e_sAI, if_neg y]; exact i4 a x
theorem q_ctl {m k p b d r : Nat} {A : AS} (W : WA A) (hd : d = 19 ∨ d = 20) (hk : k < aN A 1) (hr : r < aN A 2) : ∀ (q fu cl : Nat) (h : MHp), Cg m k p b d h A → cl + q = vs (aB A) (pI1 (aP A k)) * vs (aB A) (pI2 (aP A k)) → q < fu → ∃ h1 : MHp, (∀ (k51 : MHp → Nat → Option Nat → Option Nat → Int32 → Option (MHp)), mX16_counts_l62 k51 fu h m (some p) (some (m + d)) (Int32.ofNat r) (Int32.ofNat cl) = k51 h1 m (some p) (some (m + d)) (Int32.ofNat (r + 1))) ∧ Rs m h h1 ∧ hI h1 = hI h ∧ (∀ x : Nat, hAI h1 (m + d) x = if cl ≤ x ∧ x < vs (aB A) (pI1 (aP A k)) * vs (aB A) (pI2 (aP A k)) then hAI h (m + d) x + (if cnQ A k x r = true then 1 else 0) else hAI h (m + d) x) ∧ ∀ a : Nat, a ≠ m + 13 → a ≠ m + d → hAI h1 a = hAI h a := by
  intro q
  have WPk := W.2.2.2.2.2.1 k hk
  have hm := vs_mul W.1 WPk.2.1 WPk.2.2.1
  induction q with
  | zero =>
    intro fu cl h C hc hf
    obtain ⟨fu, rfl⟩ : ∃ g : Nat, fu = g + 1 := ⟨fu - 1, by omega⟩
    obtain ⟨Q, P, x45, x46, kd, nd⟩ := C
    have K := qK0 Q.1.1
    have c0 : Int32.ofNat (vs (aB A) (pI1 (aP A k))) * Int32.ofNat (vs (aB A) (pI2 (aP A k))) ≤ Int32.ofNat cl := by rw [← Int32.ofNat_mul, le_of (by omega) (by omega)]; omega
    refine ⟨h, fun k51 => ?_, Rs.rf, rfl, fun x => ?_, fun _ _ _ => rfl⟩
    · rw [mX16_counts_l62, b_gI, if_pos K, x45, b_gI, if_pos K, x46, if_pos c0, s1_of]
    · rw [if_neg (by omega)]
  | succ q ih =>
    intro fu cl h C hc hf
    obtain ⟨fu, rfl⟩ : ∃ g : Nat, fu = g + 1 := ⟨fu - 1, by omega⟩
    obtain ⟨h1, e1, S1, a1, a2, a3⟩ := q_ct C W hd hk (show cl < vs (aB A) (pI1 (aP A k)) * vs (aB A) (pI2 (aP A k)) by omega) hr
    obtain ⟨h2, e2, S2, b1, b2, b3⟩ := ih fu (cl + 1) h1 (C.sc S1 a1) (by omega) (by omega)
    refine ⟨h2, fun k51 => by rw [e1, e2], S1.tr S2, b1.trans a1, fun x => ?_, fun a x y => (b3 a x y).trans (a3 a x y)⟩
    rw [b2 x, a2]
    simp only [e_up]
    by_cases e : x = cl
    · subst e
      rw [if_neg (by omega), if_pos rfl, if_pos (show x ≤ x ∧ x < vs (aB A) (pI1 (aP A k)) * vs (aB A) (pI2 (aP A k)) by omega)]
    · rw [if_neg e]
      by_cases g : cl + 1 ≤ x ∧ x < vs (aB A) (pI1 (aP A k)) * vs (aB A) (pI2 (aP A k))
      · rw [if_pos g, if_pos (show cl ≤ x ∧ x < vs (aB A) (pI1 (aP A k)) * vs (aB A) (pI2 (aP A k)) by omega)]
      · rw [if_neg g, if_neg (by omega)]
theorem q_ctr {m k p b d : Nat} {A : AS} (W : WA A) (hd : d = 19 ∨ d = 20) (hk : k < aN A 1) : ∀ (q fu r : Nat) (h : MHp), Cg m k p b d h A → r + q = aN A 2 → q < fu → ∃ h1 : MHp, mX16_counts_l51 fu h m (some p) (some (m + d)) (Int32.ofNat r) = some h1 ∧ Rs m h h1 ∧ hI h1 = hI h ∧ (∀ x : Nat, x < vs (aB A) (pI1 (aP A k)) * vs (aB A) (pI2 (aP A k)) → hAI h1 (m + d) x = cntF (cnQ A k x) q r (hAI h (m + d) x)) ∧ ∀ a : Nat, a ≠ m + 13 → a ≠ m + d → hAI h1 a = hAI h a := by
  intro q
  have h60 := W.2.2.2.1
  have WPk := W.2.2.2.2.2.1 k hk
  have hm := vs_mul W.1 WPk.2.1 WPk.2.2.1
  induction q with
  | zero =>
    intro fu r h C hr hf
    obtain ⟨fu, rfl⟩ : ∃ g : Nat, fu = g + 1 := ⟨fu - 1, by omega⟩
    obtain ⟨Q, P, x45, x46, kd, nd⟩ := C
    have K := qK0 Q.1.1
    have e1 := Q.2.2.2.2.1
    have e2 : Int32.ofNat (aN A 2) ≤ Int32.ofNat r := by rw [le_of (by omega) (by omega)]; omega
    exact ⟨h, by rw [mX16_counts_l51, b_gI, if_pos K, e1, if_pos e2], Rs.rf, rfl, fun x hx => rfl, fun _ _ _ => rfl⟩
  | succ q ih =>
    intro fu r h C hr hf
    obtain ⟨fu, rfl⟩ : ∃ g : Nat, fu = g + 1 := ⟨fu - 1, by omega⟩
    have Q := C.1
    have K := qK0 Q.1.1
    have e1 := Q.2.2.2.2.1
    have e2 : ¬ Int32.ofNat (aN A 2) ≤ Int32.ofNat r := by rw [le_of (by omega) (by omega)]; omega
    obtain ⟨h1, f1, S1, a1, a2, a3⟩ := q_ctl W hd hk (show r < aN A 2 by omega) (vs (aB A) (pI1 (aP A k)) * vs (aB A) (pI2 (aP A k))) FUEL 0 h C (by omega) (by unfold FUEL; omega)
    obtain ⟨h2, f2, S2, b1, b2, b3⟩ := ih fu (r + 1) h1 (C.sc S1 a1) (by omega) (by omega)
    refine ⟨h2, ?_, S1.tr S2, b1.trans a1, fun x hx => ?_, fun a x y => (b3 a x y).trans (a3 a x y)⟩
    · rw [mX16_counts_l51, b_gI, if_pos K, e1, if_neg e2, show (0 : Int32) = Int32.ofNat 0 from rfl, f1, f2]
    · rw [b2 x hx, a2 x, if_pos ⟨Nat.zero_le _, hx⟩, cntF_s]
      congr 1
      by_cases g : cnQ A k x r = true
      · rw [if_pos g, if_pos g]
      · rw [if_neg g, if_neg g, Int32.add_zero]
theorem q_ctz {m k p b d : Nat} {A : AS} (W : WA A) (hd : d = 19 ∨ d = 20) (hk : k < aN A 1) : ∀ (q fu cl : Nat) (h : MHp), Cg m k p b d h A → cl + q = vs (aB A) (pI1 (aP A k)) * vs (aB A) (pI2 (aP A k)) → q < fu → ∃ h1 : MHp, mX16_counts_l26 fu h m (some p) (some (m + d)) (Int32.ofNat cl) = mX16_counts_l51 FUEL h1 m (some p) (some (m + d)) 0 ∧ Rs m h h1 ∧ hI h1 = hI h ∧ (∀ x : Nat, hAI h1 (m + d) x = if cl ≤ x ∧ x < vs (aB A) (pI1 (aP A k)) * vs (aB A) (pI2 (aP A k)) then 0 else hAI h (m + d) x) ∧ ∀ a : Nat, a ≠ m + d → hAI h1 a = hAI h a := by
  intro q
  have WPk := W.2.2.2.2.2.1 k hk
  have hm := vs_mul W.1 WPk.2.1 WPk.2.2.1
  induction q with
  | zero =>
    intro fu cl h C hc hf
    obtain ⟨fu, rfl⟩ : ∃ g : Nat, fu = g + 1 := ⟨fu - 1, by omega⟩
    obtain ⟨Q, P, x45, x46, kd, nd⟩ := C
    have K := qK0 Q.1.1
    have c0 : Int32.ofNat (vs (aB A) (pI1 (aP A k))) * Int32.ofNat (vs (aB A) (pI2 (aP A k))) ≤ Int32.ofNat cl := by rw [← Int32.ofNat_mul, le_of (by omega) (by omega)]; omega
    refine ⟨h, ?_, Rs.rf, rfl, fun x => ?_, fun _ _ => rfl⟩
    · rw [mX16_counts_l26, b_gI, if_pos K, x45, b_gI, if_pos K, x46, if_pos c0]
    · rw [if_neg (by omega)]
  | succ q ih =>
    intro fu cl h C hc hf
    obtain ⟨fu, rfl⟩ : ∃ g : Nat, fu = g + 1 := ⟨fu - 1, by omega⟩
    obtain ⟨Q, P, x45, x46, kd, nd⟩ := id C
    have K := qK0 Q.1.1
    have c0 : ¬ Int32.ofNat (vs (aB A) (pI1 (aP A k))) * Int32.ofNat (vs (aB A) (pI2 (aP A k))) ≤ Int32.ofNat cl := by rw [← Int32.ofNat_mul, le_of (by omega) (by omega)]; omega
    have bw := bad_n (k := cl) (n := 100) (by omega) (by omega)
    have clw : (Int32.ofNat cl).toNatClampNeg = cl := cl_of (by omega)
    obtain ⟨X, hX⟩ : ∃ X : MHp, X = sAI h (m + d) (va_up (hAI h (m + d)) cl 0) := ⟨_, rfl⟩
    have SX : Rs m h X := by rw [hX]; exact Rs.AI d _ (by rcases hd with rfl | rfl <;> decide)
    have iX : hI X = hI h := by rw [hX]; rfl
    obtain ⟨h2, e2, S2, b1, b2, b3⟩ := ih fu (cl + 1) X (C.sc SX iX) (by omega) (by omega)
    refine ⟨h2, ?_, SX.tr S2, b1.trans iX, fun x => ?_, fun a x => ?_⟩
    · rw [mX16_counts_l26, b_gI, if_pos K, x45, b_gI, if_pos K, x46, if_neg c0, b_pAI, if_pos kd, nd, if_neg bw, clw, ← hX, s1_of, e2]
    · rw [b2 x, hX, e_sAI, if_pos rfl, e_up]
      by_cases e : x = cl
      · subst e
        rw [if_neg (by omega), if_pos rfl, if_pos (by omega)]
      · rw [if_neg e]
        by_cases g : cl + 1 ≤ x ∧ x < vs (aB A) (pI1 (aP A k)) * vs (aB A) (pI2 (aP A k))
        · rw [if_pos g, if_pos (by omega)]
        · rw [if_neg g, if_neg (by omega)]
    · rw [b3 a x, hX, e_sAI, if_neg x]
theorem q_counts {m k p b d : Nat} {h : MHp} {A : AS} (Q : RQ m b (aN A 2) h A) (P : RP (m + 26) h p (aP A k)) (W : WA A) (hd : d = 19 ∨ d = 20) (hk : k < aN A 1) : ∃ h1 : MHp, mX16_counts h m (some p) (some (m + d)) = some h1 ∧ Rs m h h1 ∧ hI h1 m 45 = Int32.ofNat (vs (aB A) (pI1 (aP A k))) ∧ hI h1 m 46 = Int32.ofNat (vs (aB A) (pI2 (aP A k))) ∧ (∀ x : Nat, x < vs (aB A) (pI1 (aP A k)) * vs (aB A) (pI2 (aP A k)) → hAI h1 (m + d) x = cnC A k x) ∧ ∀ a : Nat, a ≠ m + 13 → a ≠ m + d → hAI h1 a = hAI h a := by
  have WPk := W.2.2.2.2.2.1 k hk
  have hm := vs_mul W.1 WPk.2.1 WPk.2.2.1
  have h60 := W.2.2.2.1
  have L := Q.1.1
  have K := qK0 L
  have f1 := q_valuesOf Q WPk.2.1
  obtain ⟨X, hX⟩ : ∃ X : MHp, X = sI h m 45 (Int32.ofNat (vs (aB A) (pI1 (aP A k)))) := ⟨_, rfl⟩
  have SX : Rs m h X := by rw [hX]; exact Rs.I 45 _ (by decide)
  have QX := Q.sc SX
  have PX : RP (m + 26) X p (aP A k) := P.ag (SX.out (Or.inr (by omega))) (by rw [SX.2.2.2.2.1]; omega)
  have LX := QX.1.1
  have f2 := q_valuesOf QX WPk.2.2.1
  obtain ⟨Y, hY⟩ : ∃ Y : MHp, Y = sI X m 46 (Int32.ofNat (vs (aB A) (pI2 (aP A k)))) := ⟨_, rfl⟩
  have SY : Rs m X Y := by rw [hY]; exact Rs.I 46 _ (by decide)
  have QY := QX.sc SY
  have PY : RP (m + 26) Y p (aP A k) := PX.ag (SY.out (Or.inr (by omega))) (by rw [SY.2.2.2.2.1]; omega)
  have LY := QY.1.1
  have x45 : hI Y m 45 = Int32.ofNat (vs (aB A) (pI1 (aP A k))) := by rw [hY, e_sI, if_neg (by omega), hX, e_sI, if_pos ⟨rfl, rfl⟩]
  have x46 : hI Y m 46 = Int32.ofNat (vs (aB A) (pI2 (aP A k))) := by rw [hY, e_sI, if_pos ⟨rfl, rfl⟩]
  have kd : hK Y (m + d) = 20 ∧ hN Y (m + d) = 100 := by
    rcases hd with rfl | rfl
    · exact ⟨qK19 LY, qN19 LY⟩
    · exact ⟨qK20 LY, qN20 LY⟩
  have CY : Cg m k p b d Y A := ⟨QY, PY, x45, x46, kd.1, kd.2⟩
  obtain ⟨h3, e3, S3, a1, a2, a3⟩ := q_ctz W hd hk (vs (aB A) (pI1 (aP A k)) * vs (aB A) (pI2 (aP A k))) FUEL 0 Y CY (by omega) (by unfold FUEL; omega)
  obtain ⟨h4, e4, S4, b1, b2, b3⟩ := q_ctr W hd hk (aN A 2) FUEL 0 h3 (CY.sc S3 a1) (by omega) (by unfold FUEL; omega)
  have p1 := P.1.1
  have p1X := PX.1.1
  refine ⟨h4, ?_, ((SX.tr SY).tr S3).tr S4, by rw [b1, a1]; exact x45, by rw [b1, a1]; exact x46, fun x hx => ?_, fun a x y => ?_⟩
  · rw [mX16_counts, b_gI, if_pos p1, P.2.2.1, b_rcv, if_pos K, f1, o_bind, b_pI, if_pos K, ← hX, b_gI, if_pos p1X, PX.2.2.2.1, b_rcv, if_pos (qK0 LX), f2, o_bind, b_pI, if_pos (qK0 LX), ← hY]
    have e3' : mX16_counts_l26 FUEL Y m (some p) (some (m + d)) 0 = _ := e3
    have e4' : mX16_counts_l51 FUEL h3 m (some p) (some (m + d)) 0 = _ := e4
    rw [e3', e4']
  · rw [b2 x hx, a2 x, if_pos ⟨Nat.zero_le _, hx⟩]; rfl
  · rw [b3 a x y, a3 a y, hY, hX]; rfl
theorem cnC_n {A : AS} (W : WA A) (k cl : Nat) : ∃ n : Nat, n ≤ 60 ∧ cnC A k cl = Int32.ofNat n := by
  have h60 := W.2.2.2.1
  obtain ⟨j, j1, -, j3⟩ := cnt_n (cnQ A k cl) (aN A 2) 0 0
  exact ⟨j, by omega, j3⟩

/-! led -/
/-- the row that is k-th, from a row on -/
def ldF (ok : Nat → Bool) : Nat → Nat → Int32 → Option Nat
  | 0, _, _ => none
  | q + 1, r, k => if ok r = true then (if k = 0 then some r else ldF ok q (r + 1) (k - 1)) else ldF ok q (r + 1) k
theorem ldF_0 (ok : Nat → Bool) (r : Nat) (k : Int32) : ldF ok 0 r k = none := (rfl)
theorem ldF_s (ok : Nat → Bool) (q r : Nat) (k : Int32) : ldF ok (q + 1) r k = if ok r = true then (if k = 0 then some r else ldF ok q (r + 1) (k - 1)) else ldF ok q (r + 1) k := (rfl)
theorem c_rowIn {c k i j : Nat} {A : AS} {w : Int32} (W : WA A) (hk : k < aN A 1) (hi : i < vs (aB A) (pI1 (aP A k))) (hj : j < vs (aB A) (pI2 (aP A k))) : ∀ (q fu r : Nat) (h : MHp) (a : Int32), CR c h A → r + q = aN A 2 → q < fu → ∃ h' : MHp, mX2_rowIn_l6 fu h (c + 192) (some (c + 120 + 7 * k)) (Int32.ofNat (i * vs (aB A) (pI2 (aP A k)) + j)) w a (Int32.ofNat r) = some (oi (ldF (inA2 A (aP A k) (Int32.ofNat i) (Int32.ofNat j) (aS A 3) 0) q r (w - a)), h') ∧ Sc c h h' := by
  intro q
  have h60 := W.2.2.2.1
  induction q with
  | zero =>
    intro fu r h a C hr hfu
    obtain ⟨fu, rfl⟩ : ∃ g : Nat, fu = g + 1 := ⟨fu - 1, by omega⟩
    refine ⟨h, ?_, Sc.rf⟩
    have L := C.l
    have e1 := C.2.1.2.2.2.2.2.1
    have e2 : Int32.ofNat (aN A 2) ≤ Int32.ofNat r := by rw [le_of (by omega) (by omega)]; omega
    rw [mX2_rowIn_l6, b_gR, if_pos (lK192 L), lR192_0 L, b_gI, if_pos (lK56 L), e1, if_pos e2, ldF_0]
    rfl
  | succ q ih =>
    intro fu r h a C hr hfu
    obtain ⟨fu, rfl⟩ : ∃ g : Nat, fu = g + 1 := ⟨fu - 1, by omega⟩
    have L := C.l
    have e1 := C.2.1.2.2.2.2.2.1
    have td := C.td
    have e2 : ¬ Int32.ofNat (aN A 2) ≤ Int32.ofNat r := by rw [le_of (by omega) (by omega)]; omega
    obtain ⟨h2, f1, S, f2⟩ := p_looksAt (fil := 0) C W (show r < aN A 2 by omega) (by omega) (aS A 3)
    have C2 := C.sc W S
    have L2 := C2.l
    obtain ⟨p1, p2, p3, p4, p5⟩ := C2.plan W hk
    have f10 : mX2_looksAt h (c + 192) (Int32.ofNat r) (aS A 3) 0 = some (if okA A r (aS A 3) 0 = true then 1 else 0, h2) := f1
    have sub1 : w - (a + 1) = w - a - 1 := by rw [Int32.sub_sub]
    have z0 : w - a = 0 ↔ a = w := by
      constructor
      · intro e; have := Int32.sub_eq_iff_eq_add.mp e; rw [Int32.zero_add] at this; exact this.symm
      · intro e; rw [e, Int32.sub_self]
    rw [ldF_s]
    by_cases z : okA A r (aS A 3) 0 = true
    · rw [if_pos z] at f10
      have xe := f2 z
      have V : inV (aB A) (hAI h2 (c + 193)) := fun f hf => by rw [xe f hf]; exact vA_in W (show r < aN A 2 by omega) (by omega) (aS A 3) f hf
      have e5 := p_cellOf p1 p3 W.1 p5 (lK193 L2) (lN193 L2) V
      have e7 := clA2_iff W.1 p5 V hi hj
      rw [inP_congr p5 W.1.1 xe] at e7
      have p11 := p1.1
      by_cases y : inP (aP A k) (vX A r (aS A 3) 0) (Int32.ofNat i) (Int32.ofNat j) = true
      · have e8 := e7.mpr y
        have z2 : inA2 A (aP A k) (Int32.ofNat i) (Int32.ofNat j) (aS A 3) 0 r = true := by unfold inA2; rw [z, y]; rfl
        rw [e8] at e5
        rw [if_pos z2]
        by_cases g : a = w
        · refine ⟨h2, ?_, S⟩
          rw [if_pos (z0.mpr g)]
          simp (maxSteps := 3000000) (disch := omega) only [mX2_rowIn_l6, lK192 L, lR192_0 L, lK56 L, e1, e2, td, f10, n10, lK192 L2, lR192_1 L2, p11, e5, g, ↓o_bind, o_map, ↓b_rcv, ↓b_gI, ↓b_gL, ↓b_gR, ↓b_gN, ↓b_pI, ↓b_pL, ↓b_pR, ↓b_gAI, ↓b_gAL, ↓b_gAR, ↓b_pAI, ↓b_pAL, bad_of, bad_l, Bool.false_eq_true, ↓reduceIte, Int32.reduceLT, Int32.reduceLE, Int32.reduceToNatClampNeg, Int32.reduceOfNat, Int32.reduceAdd, Int32.reduceSub, Int32.reduceMul, Nat.reduceAdd, Nat.reduceMul, Nat.reduceEqDiff]
          rfl
        · obtain ⟨h3, g1, S2⟩ := ih fu (r + 1) h2 (a + 1) C2 (by omega) (by omega)
          refine ⟨h3, ?_, S.tr S2⟩
          rw [if_neg (fun e => g (z0.mp e)), ← sub1, ← g1]
          simp (maxSteps := 3000000) (disch := omega) only [mX2_rowIn_l6, mX2_rowIn_b59, lK192 L, lR192_0 L, lK56 L, e1, e2, td, f10, n10, lK192 L2, lR192_1 L2, p11, e5, g, s1_of, ↓o_bind, o_map, ↓b_rcv, ↓b_gI, ↓b_gL, ↓b_gR, ↓b_gN, ↓b_pI, ↓b_pL, ↓b_pR, ↓b_gAI, ↓b_gAL, ↓b_gAR, ↓b_pAI, ↓b_pAL, bad_of, bad_l, Bool.false_eq_true, ↓reduceIte, Int32.reduceLT, Int32.reduceLE, Int32.reduceToNatClampNeg, Int32.reduceOfNat, Int32.reduceAdd, Int32.reduceSub, Int32.reduceMul, Nat.reduceAdd, Nat.reduceMul, Nat.reduceEqDiff]
      · have e8 : ¬ (clA2 (aB A) (aP A k) (hAI h2 (c + 193)) = Int32.ofNat (i * vs (aB A) (pI2 (aP A k)) + j)) := fun e => y (e7.mp e)
        have z2 : ¬ inA2 A (aP A k) (Int32.ofNat i) (Int32.ofNat j) (aS A 3) 0 r = true := by unfold inA2; rw [z, Bool.true_and]; exact y
        obtain ⟨h3, g1, S2⟩ := ih fu (r + 1) h2 a C2 (by omega) (by omega)
        refine ⟨h3, ?_, S.tr S2⟩
        rw [if_neg z2, ← g1]
        simp (maxSteps := 3000000) (disch := omega) only [mX2_rowIn_l6, mX2_rowIn_b59, lK192 L, lR192_0 L, lK56 L, e1, e2, td, f10, n10, lK192 L2, lR192_1 L2, p11, e5, e8, s1_of, ↓o_bind, o_map, ↓b_rcv, ↓b_gI, ↓b_gL, ↓b_gR, ↓b_gN, ↓b_pI, ↓b_pL, ↓b_pR, ↓b_gAI, ↓b_gAL, ↓b_gAR, ↓b_pAI, ↓b_pAL, bad_of, bad_l, Bool.false_eq_true, ↓reduceIte, Int32.reduceLT, Int32.reduceLE, Int32.reduceToNatClampNeg, Int32.reduceOfNat, Int32.reduceAdd, Int32.reduceSub, Int32.reduceMul, Nat.reduceAdd, Nat.reduceMul, Nat.reduceEqDiff]
    · rw [if_neg z] at f10
      have z2 : ¬ inA2 A (aP A k) (Int32.ofNat i) (Int32.ofNat j) (aS A 3) 0 r = true := by
        unfold inA2; rw [Bool.and_eq_true]; intro hh; exact z hh.1
      obtain ⟨h3, g1, S2⟩ := ih fu (r + 1) h2 a C2 (by omega) (by omega)
      refine ⟨h3, ?_, S.tr S2⟩
      rw [if_neg z2, ← g1]
      rw [mX2_rowIn_l6, b_gR, if_pos (lK192 L), lR192_0 L, b_gI, if_pos (lK56 L), e1, if_neg e2, b_gR, if_pos (lK192 L), lR192_0 L, b_gI, if_pos (lK56 L), td, b_rcv, if_pos (lK192 L), f10, o_bind, if_pos rfl, mX2_rowIn_b59, s1_of]
theorem r_led {m k p : Nat} {A : AS} {i j : Int32} (W : WA A) (hk : k < aN A 1) : ∀ (q fu r : Nat) (h : MHp) (w : Int32), RR m h A → hAR h (m + 1) k = some p → RP (m + 26) h p (aP A k) → 0 ≤ w → r + q = aN A 2 → q < fu → ∃ h' : MHp, mX16_led_l29 fu h m (Int32.ofNat k) i j w (Int32.ofNat r) = (match ldF (inA2 A (aP A k) i j (aS A 3) 0) q r w with | none => some (0, h') | some r2 => some (Int32.ofNat r2, sI h' m 0 0)) ∧ Rs m h h' ∧ hI h' m 0 = hI h m 0 := by
  intro q
  have h60 := W.2.2.2.1
  have h8 := W.2.2.1
  induction q with
  | zero =>
    intro fu r h w R hp1 hp2 hw hr hfu
    obtain ⟨fu, rfl⟩ : ∃ g : Nat, fu = g + 1 := ⟨fu - 1, by omega⟩
    refine ⟨h, ?_, Rs.rf, rfl⟩
    have L := R.1.1
    have e1 := R.2.1.2.2.1
    have e2 : Int32.ofNat (aN A 2) ≤ Int32.ofNat r := by rw [le_of (by omega) (by omega)]; omega
    rw [mX16_led_l29, b_gI, if_pos (qK0 L), e1, if_pos e2, ldF_0]
  | succ q ih =>
    intro fu r h w R hp1 hp2 hw hr hfu
    obtain ⟨fu, rfl⟩ : ∃ g : Nat, fu = g + 1 := ⟨fu - 1, by omega⟩
    have L := R.1.1
    have e1 := R.2.1.2.2.1
    have s3 := R.2.1.2.2.2.2.2.2.2.1
    have e2 : ¬ Int32.ofNat (aN A 2) ≤ Int32.ofNat r := by rw [le_of (by omega) (by omega)]; omega
    obtain ⟨b, Q⟩ := R.rq W (W.post hk)
    obtain ⟨h2, f1, ⟨S, S0⟩, -⟩ := q_isIn (fil := 0) (i := i) (j := j) Q (show r < aN A 2 by omega) (by omega) (aS A 3) hp2 (W.2.2.2.2.2.1 k hk)
    have R2 := R.sc S
    have L2 := R2.1.1
    have hp3 : hAR h2 (m + 1) k = some p := by rw [S.2.2.2.1]; exact hp1
    have hp4 : RP (m + 26) h2 p (aP A k) := hp2.ag (S.out (Or.inr (by omega))) (by rw [S.2.2.2.2.1]; omega)
    have f10 : mX16_isIn h m (some p) (Int32.ofNat r) i j (aS A 3) 0 = some (if inA2 A (aP A k) i j (aS A 3) 0 r = true then 1 else 0, h2) := f1
    have n1w : w + (-1) = w - 1 := by rw [Int32.sub_eq_add_neg]
    rw [ldF_s]
    by_cases z : inA2 A (aP A k) i j (aS A 3) 0 r = true
    · rw [if_pos z] at f10
      rw [if_pos z]
      by_cases g : w = 0
      · refine ⟨h2, ?_, S, by rw [S0]⟩
        rw [if_pos g]
        simp (maxSteps := 3000000) (disch := omega) only [mX16_led_l29, qK0 L, e1, e2, qR6 L, qK1 L, qN1 L, cl_of, hp1, s3, f10, n10, g, qK0 L2, ↓o_bind, o_map, ↓b_rcv, ↓b_gI, ↓b_gL, ↓b_gR, ↓b_gN, ↓b_pI, ↓b_pL, ↓b_pR, ↓b_gAI, ↓b_gAL, ↓b_gAR, ↓b_pAI, ↓b_pAL, bad_of, bad_l, Bool.false_eq_true, ↓reduceIte, Int32.reduceLT, Int32.reduceLE, Int32.reduceToNatClampNeg, Int32.reduceOfNat, Int32.reduceAdd, Int32.reduceSub, Int32.reduceMul, Nat.reduceAdd, Nat.reduceMul, Nat.reduceEqDiff]
      · obtain ⟨h3, g1, S2, g3⟩ := ih fu (r + 1) h2 (w - 1) R2 hp3 hp4 (by grind) (by omega) (by omega)
        refine ⟨h3, ?_, S.tr S2, by rw [g3, S0]⟩
        rw [if_neg g, ← g1]
        simp (maxSteps := 3000000) (disch := omega) only [mX16_led_l29, mX16_led_b79, qK0 L, e1, e2, qR6 L, qK1 L, qN1 L, cl_of, hp1, s3, f10, n10, g, n1w, s1_of, ↓o_bind, o_map, ↓b_rcv, ↓b_gI, ↓b_gL, ↓b_gR, ↓b_gN, ↓b_pI, ↓b_pL, ↓b_pR, ↓b_gAI, ↓b_gAL, ↓b_gAR, ↓b_pAI, ↓b_pAL, bad_of, bad_l, Bool.false_eq_true, ↓reduceIte, Int32.reduceLT, Int32.reduceLE, Int32.reduceToNatClampNeg, Int32.reduceOfNat, Int32.reduceAdd, Int32.reduceSub, Int32.reduceMul, Nat.reduceAdd, Nat.reduceMul, Nat.reduceEqDiff]
    · rw [if_neg z] at f10
      obtain ⟨h3, g1, S2, g3⟩ := ih fu (r + 1) h2 w R2 hp3 hp4 hw (by omega) (by omega)
      refine ⟨h3, ?_, S.tr S2, by rw [g3, S0]⟩
      rw [if_neg z, ← g1]
      have c0 : ¬ Int32.ofNat k < 0 := by rw [nn_of (by omega)]; exact not_false
      have bd : bad (Int32.ofNat k) 8 = false := bad_of (by omega) (by omega)
      rw [mX16_led_l29, b_gI, if_pos (qK0 L), e1, if_neg e2, b_gR, if_pos (qK0 L), qR6 L, b_gAR, if_pos (qK1 L), qN1 L, bd, if_neg (by decide), cl_of (by omega), hp1, b_gI, if_pos (qK0 L), s3, b_rcv, if_pos (qK0 L), f10, o_bind, if_pos rfl, mX16_led_b79, s1_of]
theorem ldF_none (ok : Nat → Bool) : ∀ (q r : Nat) (k : Int32), (∀ a : Nat, a < q → k ≠ Int32.ofNat a) → ldF ok q r k = none
  | 0, r, k, _ => rfl
  | q + 1, r, k, h => by
    have h0 : ¬ k = 0 := h 0 (by omega)
    have e1 : ldF ok q (r + 1) (k - 1) = none := ldF_none ok q (r + 1) (k - 1) (fun a ha e => h (a + 1) (by omega) (by
      rw [← s1_of, ← e]
      grind))
    have e2 := ldF_none ok q (r + 1) k (fun a ha => h a (by omega))
    rw [ldF_s]
    by_cases z : ok r = true
    · rw [if_pos z, if_neg h0, e1]
    · rw [if_neg z, e2]
theorem ldF_lt (ok : Nat → Bool) : ∀ (q r : Nat) (k : Int32) (x : Nat), ldF ok q r k = some x → r ≤ x ∧ x < r + q
  | 0, r, k, x, h => by cases h
  | q + 1, r, k, x, h => by
    rw [ldF_s] at h
    split at h
    · split at h
      · cases h; omega
      · have := ldF_lt ok q (r + 1) (k - 1) x h; omega
    · have := ldF_lt ok q (r + 1) k x h; omega
theorem RR.out {m : Nat} {h : MHp} {A : AS} {g : Nat → Int64} (C : RR m h A) : RR m (sAL h (m + 25) g) A := by
  obtain ⟨x, y, z, w1, w2, w3⟩ := C
  have ag9 : ∀ lo hi : Nat, m + 25 < lo ∨ hi ≤ m + 25 → Ag lo hi h (sAL h (m + 25) g) := fun lo hi d => Ag.AL _ _ (by omega)
  refine ⟨x.ag (ag9 _ _ (by omega)) (Nat.le_refl _) x.1 rfl, y, z, w1, w2, fun k hk => ?_⟩
  obtain ⟨p, p1, p2, p3, p4⟩ := w3 k hk
  obtain ⟨-, -, -, -, ⟨p5, p6⟩, -⟩ := id p2
  exact ⟨p, p1, p2.ag (ag9 _ _ (by omega)) (Nat.le_refl _), p3.ag (ag9 _ _ (by omega)), p4⟩
theorem RR.nx {m : Nat} {h : MHp} {A : AS} (C : RR m h A) : RR m (nX h) A := RR.ag (h := h) (h' := nX h) (fun _ _ _ => ⟨rfl, rfl, rfl, rfl, rfl, rfl, rfl, rfl⟩) (Nat.le_succ (hS h)) C
theorem x_led {c m : Nat} {h : MHp} {A : AS} (hm : m = c + 208) (C : CR c h A) (W : WA A) (R : RR m h A) (t i j w : Int32) : ∃ (k : Int32) (h1 : MHp) (b : Int32) (h2 : MHp), mL_led h (some c) t i j w (some (m + 25)) = some (k, h1) ∧ mX16_led h1 m t i j w = some (b, h2) ∧ mX16_thrown h2 m = some k ∧ (k = 0 → hAL h2 (m + 25) 0 = b.toInt64) ∧ CR c h2 A ∧ RR m h2 A := by
  have L := C.l
  have h60 := W.2.2.2.1
  have back : ∀ {h1 h2 : MHp}, CR c h1 A → Om m h1 h2 → CR c h2 A := fun C1 O => C1.ag W (O.2.sub (by omega) (by omega))
  by_cases hc : isC A t i j
  · obtain ⟨k, u, v, hk, hu, hv, rfl, rfl, rfl⟩ := hc
    have e1 := p_hasCell1 C W hk hu hv
    obtain ⟨p1, p2, p3, p4, p5⟩ := C.plan W hk
    have e5 := p_cellAt (u := u) (v := v) p1 p3
    obtain ⟨h2, g1, S⟩ := c_rowIn (w := w) W hk hu hv (aN A 2) FUEL 0 h 0 C (by omega) (by unfold FUEL; omega)
    have g2 : mX2_rowIn h (c + 192) (some (c + 120 + 7 * k)) (Int32.ofNat (u * vs (aB A) (pI2 (aP A k)) + v)) w = some (oi (ldF (inA2 A (aP A k) (Int32.ofNat u) (Int32.ofNat v) (aS A 3) 0) (aN A 2) 0 (w - 0)), h2) := g1
    have z0 : w - 0 = w := Int32.sub_zero w
    rw [z0] at g2
    have C2 := C.sc W S
    have R2 : RR m h2 A := R.ag (S.out (Or.inr (by omega))) (by rw [S.2.2.2.2.1]; omega)
    have i1 := p1.1
    have h8 := W.2.2.1
    have cls : mX11_led h c (Int32.ofNat k) (Int32.ofNat u) (Int32.ofNat v) w = mX11_led_b40 h2 (oi (ldF (inA2 A (aP A k) (Int32.ofNat u) (Int32.ofNat v) (aS A 3) 0) (aN A 2) 0 w)) := by
      simp (maxSteps := 3000000) (disch := omega) only [mX11_led, lK0 L, e1, n10, lR0_7 L, lR0_3 L, lK119 L, lN119 L, cl_of, p2, i1, e5, lK192 L, g2, ↓o_bind, o_map, ↓b_rcv, ↓b_gI, ↓b_gL, ↓b_gR, ↓b_gN, ↓b_pI, ↓b_pL, ↓b_pR, ↓b_gAI, ↓b_gAL, ↓b_gAR, ↓b_pAI, ↓b_pAL, bad_of, bad_l, Bool.false_eq_true, ↓reduceIte, Int32.reduceLT, Int32.reduceLE, Int32.reduceToNatClampNeg, Int32.reduceOfNat, Int32.reduceAdd, Int32.reduceSub, Int32.reduceMul, Nat.reduceAdd, Nat.reduceMul, Nat.reduceEqDiff]
    cases hl : ldF (inA2 A (aP A k) (Int32.ofNat u) (Int32.ofNat v) (aS A 3) 0) (aN A 2) 0 w with
    | none =>
      rw [hl] at cls
      have cls2 : mL_led h (some c) (Int32.ofNat k) (Int32.ofNat u) (Int32.ofNat v) w (some (m + 25)) = some (1, nX h2) := by
        rw [mL_led, b_rcv, if_pos (lK0 L), cls, mX11_led_b40, oim, if_pos rfl, o_bind]
      have R3 := R2.nx.th 1
      have M := R2.1.1
      have f1 := q_isCell1 R3 W hk hu hv
      by_cases hw : 0 ≤ w
      · obtain ⟨p, pp1, pp2, -⟩ := q_table R3 hk
        obtain ⟨h4, f2, S4, f4⟩ := r_led (i := Int32.ofNat u) (j := Int32.ofNat v) W hk (aN A 2) FUEL 0 (sI (nX h2) m 0 1) w R3 pp1 pp2 hw (by omega) (by unfold FUEL; omega)
        rw [hl] at f2
        refine ⟨1, nX h2, 0, h4, cls2, ?_, ?_, fun e => absurd e (by decide), back (h1 := sI (nX h2) m 0 1) (back (h1 := nX h2) C2 (Om.th 1)) S4.om, R3.sc S4⟩
        · rw [mX16_led, b_pI, if_pos (show hK (nX h2) m = 17 from qK0 M), b_rcv, if_pos (show hK (sI (nX h2) m 0 1) m = 17 from qK0 M), f1, o_bind, if_neg n10, if_pos hw]
          exact f2
        · rw [mX16_thrown, b_gI, if_pos (qK0 (R3.sc S4).1.1), f4, e_Iself]
      · refine ⟨1, nX h2, 0, sI (nX h2) m 0 1, cls2, ?_, ?_, fun e => absurd e (by decide), back (h1 := nX h2) C2 (Om.th 1), R3⟩
        · rw [mX16_led, b_pI, if_pos (show hK (nX h2) m = 17 from qK0 M), b_rcv, if_pos (show hK (sI (nX h2) m 0 1) m = 17 from qK0 M), f1, o_bind, if_neg n10, if_neg hw]
        · rw [mX16_thrown, b_gI, if_pos (qK0 R3.1.1), e_Iself]
    | some r =>
      rw [hl] at cls
      have hr := ldF_lt _ _ _ _ _ hl
      have hw : 0 ≤ w := by
        refine Int32.not_lt.mp (fun hneg => ?_)
        have := ldF_none (inA2 A (aP A k) (Int32.ofNat u) (Int32.ofNat v) (aS A 3) 0) (aN A 2) 0 w (fun a ha e => by rw [e, nn_of (by omega)] at hneg; exact hneg)
        rw [this] at hl
        cases hl
      have nr : ¬ oi (some r) = -1 := nm_of (by omega)
      have M := R2.1.1
      have bd : bad 0 1 = false := by decide
      have cl : (0 : Int32).toNatClampNeg = 0 := rfl
      have cls2 : mL_led h (some c) (Int32.ofNat k) (Int32.ofNat u) (Int32.ofNat v) w (some (m + 25)) = some (0, sAL h2 (m + 25) (va_up (hAL h2 (m + 25)) 0 (Int32.ofNat r).toInt64)) := by
        rw [mL_led, b_rcv, if_pos (lK0 L), cls, mX11_led_b40, if_neg nr, o_bind]
        show (pAL 21 h2 (some (m + 25)) 0 (Int32.ofNat r).toInt64).bind _ = _
        rw [b_pAL, if_pos (qK25 M), qN25 M, bd, if_neg (by decide), cl]
      have R3 : RR m (sI (sAL h2 (m + 25) (va_up (hAL h2 (m + 25)) 0 (Int32.ofNat r).toInt64)) m 0 1) A := R2.out.th 1
      have f1 := q_isCell1 R3 W hk hu hv
      have M3 := R3.1.1
      obtain ⟨p, pp1, pp2, -⟩ := q_table R3 hk
      obtain ⟨h4, f2, S4, f4⟩ := r_led (i := Int32.ofNat u) (j := Int32.ofNat v) W hk (aN A 2) FUEL 0 _ w R3 pp1 pp2 hw (by omega) (by unfold FUEL; omega)
      rw [hl] at f2
      have O : Om m h2 (sI (sAL h2 (m + 25) (va_up (hAL h2 (m + 25)) 0 (Int32.ofNat r).toInt64)) m 0 1) := (Om.AL _ _ (by omega)).tr (Om.th 1)
      refine ⟨0, _, Int32.ofNat r, sI h4 m 0 0, cls2, ?_, ?_, fun _ => ?_, back (back (back C2 O) S4.om) (Om.th 0), (R3.sc S4).th 0⟩
      · rw [mX16_led, b_pI, if_pos (show hK (sAL h2 (m + 25) (va_up (hAL h2 (m + 25)) 0 (Int32.ofNat r).toInt64)) m = 17 from qK0 M), b_rcv, if_pos (qK0 M3), f1, o_bind, if_neg n10, if_pos hw]
        exact f2
      · rw [mX16_thrown, b_gI, if_pos (show hK (sI h4 m 0 0) m = 17 from qK0 (R3.sc S4).1.1), e_Iself]
      · have e9 : hAL h4 (m + 25) = hAL (sI (sAL h2 (m + 25) (va_up (hAL h2 (m + 25)) 0 (Int32.ofNat r).toInt64)) m 0 1) (m + 25) := (S4.2.2.2.2.2.2 (m + 25) (fun q hq e => by have := rsc_p hq; omega)).2.2
        show hAL h4 (m + 25) 0 = _
        rw [e9]
        show hAL (sAL h2 (m + 25) (va_up (hAL h2 (m + 25)) 0 (Int32.ofNat r).toInt64)) (m + 25) 0 = _
        rw [e_sAL, if_pos rfl, e_up, if_pos rfl]
  · have e1 := p_hasCell0 C W hc
    have cls2 : mL_led h (some c) t i j w (some (m + 25)) = some (1, nX h) := by
      rw [mL_led, b_rcv, if_pos (lK0 L), mX11_led, b_rcv, if_pos (lK0 L), e1, o_bind, if_pos rfl, mX11_led_b40, if_pos rfl, o_bind]
    have R3 := R.nx.th 1
    have M := R.1.1
    have f1 := q_isCell0 R3 W hc
    refine ⟨1, nX h, 0, sI (nX h) m 0 1, cls2, ?_, ?_, fun e => absurd e (by decide), back (h1 := nX h) C (Om.th 1), R3⟩
    · rw [mX16_led, b_pI, if_pos (show hK (nX h) m = 17 from qK0 M), b_rcv, if_pos (show hK (sI (nX h) m 0 1) m = 17 from qK0 M), f1, o_bind, if_pos rfl]
    · rw [mX16_thrown, b_gI, if_pos (qK0 R3.1.1), e_Iself]

/-! wide sets -/
noncomputable def bV (ls cs : Nat) (out : Nat → Bool) (x0 : Nat → Int) (q : Nat) (md : Bool) : Int := Classical.epsilon (fun v => Best ls cs out x0 q md v)
theorem bV_eq {ls cs q : Nat} {out : Nat → Bool} {x0 : Nat → Int} {md : Bool} {v : Int} (B : Best ls cs out x0 q md v) : v = bV ls cs out x0 q md := B.un (Classical.epsilon_spec ⟨v, B⟩)
noncomputable def wdQ (A : AS) (k : Nat) (out : Int64) (cl : Nat) : Bool := !(shQ A k cl) || (bL out cl && decide (aS A 7 ≤ Int32.ofInt (bV (vs (aB A) (pI1 (aP A k))) (vs (aB A) (pI2 (aP A k))) (bL out) (cnI A k) cl true) - Int32.ofInt (bV (vs (aB A) (pI1 (aP A k))) (vs (aB A) (pI2 (aP A k))) (bL out) (cnI A k) cl false)))
noncomputable def wdA (A : AS) (k : Nat) (out : Int64) : Bool := allF (wdQ A k out) (vs (aB A) (pI1 (aP A k)) * vs (aB A) (pI2 (aP A k))) 0
theorem shy_sub {a b : Int64} : (lg_cmp (a &&& (b ^^^ (-1))) 0 = 0) = ∀ j : Nat, bL a j = true → bL b j = true := by
  rw [lg0, ← Int64.toBitVec_inj]
  show (a.toBitVec &&& (b.toBitVec ^^^ BitVec.allOnes 64) = 0#64) = _
  apply propext
  constructor
  · intro h j ha
    have e := congrArg (fun y : BitVec 64 => y.getLsbD j) h
    have hj : j < 64 := by
      apply Nat.lt_of_not_le
      intro hge
      have : bL a j = false := BitVec.getLsbD_of_ge _ _ hge
      rw [this] at ha; cases ha
    have e : (a.toBitVec &&& (b.toBitVec ^^^ BitVec.allOnes 64)).getLsbD j = (0#64).getLsbD j := e
    rw [BitVec.getLsbD_and, BitVec.getLsbD_xor, BitVec.getLsbD_allOnes, BitVec.getLsbD_zero, decide_eq_true hj] at e
    have ha' : a.toBitVec.getLsbD j = true := ha
    rw [ha', Bool.true_and] at e
    show b.toBitVec.getLsbD j = true
    revert e
    cases b.toBitVec.getLsbD j <;> decide
  · intro h
    apply BitVec.eq_of_getLsbD_eq
    intro j hj
    rw [BitVec.getLsbD_and, BitVec.getLsbD_xor, BitVec.getLsbD_allOnes, BitVec.getLsbD_zero, decide_eq_true hj]
    have hh := h j
    unfold bL at hh
    revert hh
    cases a.toBitVec.getLsbD j <;> cases b.toBitVec.getLsbD j <;> simp
theorem cell_ij {ls cs cl : Nat} (hcs : 1 ≤ cs) (h : cl < ls * cs) : ∃ i j : Nat, i < ls ∧ j < cs ∧ cl = i * cs + j := by
  refine ⟨cl / cs, cl % cs, (Nat.div_lt_iff_lt_mul (by omega)).mpr h, Nat.mod_lt _ (by omega), ?_⟩
  have := Nat.div_add_mod cl cs
  rw [Nat.mul_comm] at this
  exact this.symm
theorem c_wdl {c k : Nat} {out : Int64} {A : AS} (W : WA A) (hk : k < aN A 1) (hsub : ∀ j : Nat, bL (msL (shQ A k) (vs (aB A) (pI1 (aP A k)) * vs (aB A) (pI2 (aP A k))) 0 0) j = true → bL out j = true) : ∀ (q cl fu : Nat) (h : MHp), Gc c (vs (aB A) (pI1 (aP A k))) (vs (aB A) (pI2 (aP A k))) h → (∀ cl : Nat, cl < vs (aB A) (pI1 (aP A k)) * vs (aB A) (pI2 (aP A k)) → hAI h (c + 201) cl = Int32.ofInt (cnI A k cl) ∧ 0 ≤ cnI A k cl) → cl + q = 60 → q < fu → ∃ h' : MHp, mX3_isWide_l17 fu h (c + 200) out (msL (shQ A k) (vs (aB A) (pI1 (aP A k)) * vs (aB A) (pI2 (aP A k))) 0 0) (aS A 7) (Int32.ofNat cl) = some (if allF (fun x => decide (x < vs (aB A) (pI1 (aP A k)) * vs (aB A) (pI2 (aP A k))) == false || wdQ A k out x) q cl = true then 1 else 0, h') ∧ Gq c h h' := by
  intro q
  induction q with
  | zero =>
    intro cl fu h G hx hq hf
    obtain ⟨fu, rfl⟩ : ∃ g : Nat, fu = g + 1 := ⟨fu - 1, by omega⟩
    refine ⟨h, ?_, Sc.rf, rfl, rfl⟩
    rw [mX3_isWide_l17, if_pos (by rw [show (60 : Int32) = Int32.ofNat 60 from rfl, le_of (by omega) (by omega)]; omega), allF_0]; rfl
  | succ q ih =>
    intro cl fu h G hx hq hf
    obtain ⟨fu, rfl⟩ : ∃ g : Nat, fu = g + 1 := ⟨fu - 1, by omega⟩
    obtain ⟨L, g1, g2, g3, g4, g5⟩ := id G
    have K := lK200 L
    have c0 : ¬ (60 : Int32) ≤ Int32.ofNat cl := by rw [show (60 : Int32) = Int32.ofNat 60 from rfl, le_of (by omega) (by omega)]; omega
    have eb := bL_msL (shQ A k) (vs (aB A) (pI1 (aP A k)) * vs (aB A) (pI2 (aP A k))) 0 0 cl (by omega)
    rw [bL_0, Bool.false_or, Nat.zero_add] at eb
    by_cases s : bL (msL (shQ A k) (vs (aB A) (pI1 (aP A k)) * vs (aB A) (pI2 (aP A k))) 0 0) cl = true
    · have s2 := s
      rw [eb, Bool.and_eq_true, decide_eq_true_eq] at s2
      obtain ⟨⟨-, hcl⟩, sh⟩ := s2
      have ho := hsub cl s
      obtain ⟨i, j, hi, hj, ecl⟩ := cell_ij g4.1 hcl
      have ho' : bL out (i * vs (aB A) (pI2 (aP A k)) + j) = true := by rw [← ecl]; exact ho
      obtain ⟨h1, v1, e1, S1, B1⟩ := p_edgeOf (out := out) true G hi hj hx (cnI_60 W hk) ho'
      have G1 := G.sc S1.1 S1.2.1
      have hx1 : ∀ cl : Nat, cl < vs (aB A) (pI1 (aP A k)) * vs (aB A) (pI2 (aP A k)) → hAI h1 (c + 201) cl = Int32.ofInt (cnI A k cl) ∧ 0 ≤ cnI A k cl := fun cl hcl => by rw [S1.2.2]; exact hx cl hcl
      obtain ⟨h2, v2, e2, S2, B2⟩ := p_edgeOf (out := out) false G1 hi hj hx1 (cnI_60 W hk) ho'
      have G2 := G1.sc S2.1 S2.2.1
      rw [← ecl] at e1 e2 B1 B2
      have b1 := bV_eq B1
      have b2 := bV_eq B2
      have e1' : mX3_edgeOf h (c + 200) (Int32.ofNat cl) out 1 = some (Int32.ofInt v1, h1) := e1
      have e2' : mX3_edgeOf h1 (c + 200) (Int32.ofNat cl) out 0 = some (Int32.ofInt v2, h2) := e2
      have wq : (decide (cl < vs (aB A) (pI1 (aP A k)) * vs (aB A) (pI2 (aP A k))) == false || wdQ A k out cl) = decide (aS A 7 ≤ Int32.ofInt v1 - Int32.ofInt v2) := by
        rw [decide_eq_true hcl]
        unfold wdQ
        rw [sh, ho, b1, b2]
        simp
      by_cases w : aS A 7 ≤ Int32.ofInt v1 - Int32.ofInt v2
      · obtain ⟨h3, e3, S3⟩ := ih (cl + 1) fu h2 G2 (fun cl hcl => by rw [S2.2.2]; exact hx1 cl hcl) (by omega) (by omega)
        refine ⟨h3, ?_, (S1.tr S2).tr S3⟩
        rw [mX3_isWide_l17, if_neg c0, p_left _ (by omega), o_bind, if_pos s, if_neg n10, b_rcv, if_pos K, e1', o_bind, b_rcv, if_pos (lK200 G1.1), e2', o_bind, if_pos w, mX3_isWide_b57, s1_of, e3, allF_s, wq, decide_eq_true w, Bool.true_and]
      · refine ⟨h2, ?_, S1.tr S2⟩
        rw [mX3_isWide_l17, if_neg c0, p_left _ (by omega), o_bind, if_pos s, if_neg n10, b_rcv, if_pos K, e1', o_bind, b_rcv, if_pos (lK200 G1.1), e2', o_bind, if_neg w, allF_s, wq, decide_eq_false w, Bool.false_and, if_neg (by decide)]
    · have wq : (decide (cl < vs (aB A) (pI1 (aP A k)) * vs (aB A) (pI2 (aP A k))) == false || wdQ A k out cl) = true := by
        by_cases hcl : cl < vs (aB A) (pI1 (aP A k)) * vs (aB A) (pI2 (aP A k))
        · have s2 : shQ A k cl = false := by
            rw [eb, decide_eq_true (show 0 ≤ cl ∧ cl < vs (aB A) (pI1 (aP A k)) * vs (aB A) (pI2 (aP A k)) from ⟨Nat.zero_le _, hcl⟩), Bool.true_and] at s
            simpa using s
          unfold wdQ
          rw [s2]
          simp
        · rw [decide_eq_false hcl]; rfl
      obtain ⟨h3, e3, S3⟩ := ih (cl + 1) fu h G hx (by omega) (by omega)
      refine ⟨h3, ?_, S3⟩
      rw [mX3_isWide_l17, if_neg c0, p_left _ (by omega), o_bind, if_neg s, if_pos rfl, mX3_isWide_b57, s1_of, e3, allF_s, wq, Bool.true_and]
theorem p_isWide {c k : Nat} {out : Int64} {h : MHp} {A : AS} (W : WA A) (hk : k < aN A 1) (G : Gc c (vs (aB A) (pI1 (aP A k))) (vs (aB A) (pI2 (aP A k))) h) (hx : ∀ cl : Nat, cl < vs (aB A) (pI1 (aP A k)) * vs (aB A) (pI2 (aP A k)) → hAI h (c + 201) cl = Int32.ofInt (cnI A k cl) ∧ 0 ≤ cnI A k cl) : ∃ h' : MHp, mX3_isWide h (c + 200) out (msL (shQ A k) (vs (aB A) (pI1 (aP A k)) * vs (aB A) (pI2 (aP A k))) 0 0) (aS A 7) = some (if wdA A k out = true then 1 else 0, h') ∧ Gq c h h' := by
  obtain ⟨L, g1, g2, g3, g4, g5⟩ := id G
  by_cases s : ∀ j : Nat, bL (msL (shQ A k) (vs (aB A) (pI1 (aP A k)) * vs (aB A) (pI2 (aP A k))) 0 0) j = true → bL out j = true
  · obtain ⟨h1, e1, S1⟩ := c_wdl W hk s 60 0 FUEL h G hx (by omega) (by unfold FUEL; omega)
    have e1' : mX3_isWide_l17 FUEL h (c + 200) out (msL (shQ A k) (vs (aB A) (pI1 (aP A k)) * vs (aB A) (pI2 (aP A k))) 0 0) (aS A 7) 0 = _ := e1
    refine ⟨h1, ?_, S1⟩
    have ea : allF (fun x => decide (x < vs (aB A) (pI1 (aP A k)) * vs (aB A) (pI2 (aP A k))) == false || wdQ A k out x) 60 0 = wdA A k out := by
      unfold wdA
      rw [Bool.eq_iff_iff, allF_iff, allF_iff]
      constructor
      · intro hh j h1 h2
        have := hh j h1 (by omega)
        rw [decide_eq_true (show j < vs (aB A) (pI1 (aP A k)) * vs (aB A) (pI2 (aP A k)) by omega)] at this
        simpa using this
      · intro hh j h1 h2
        by_cases hj : j < vs (aB A) (pI1 (aP A k)) * vs (aB A) (pI2 (aP A k))
        · rw [hh j h1 (by omega), Bool.or_true]
        · rw [decide_eq_false hj]; rfl
    rw [mX3_isWide, if_pos (by rw [shy_sub]; exact s), e1', ea]
  · refine ⟨h, ?_, Sc.rf, rfl, rfl⟩
    have : ¬ wdA A k out = true := by
      intro hw
      apply s
      intro j hj
      unfold wdA at hw
      rw [allF_iff] at hw
      have eb := bL_msL (shQ A k) (vs (aB A) (pI1 (aP A k)) * vs (aB A) (pI2 (aP A k))) 0 0 j (by omega)
      rw [bL_0, Bool.false_or, hj] at eb
      have eb2 := eb.symm
      rw [Bool.and_eq_true, decide_eq_true_eq] at eb2
      have := hw j eb2.1.1 eb2.1.2
      unfold wdQ at this
      rw [eb2.2] at this
      simp at this
      exact this.1
    rw [mX3_isWide, if_neg (by rw [shy_sub]; exact s), if_neg this]
theorem q_wdl {m k : Nat} {out : Int64} {A : AS} (W : WA A) (hk : k < aN A 1) : ∀ (q cl fu : Nat) (h : MHp), RR m h A → Rc m (vs (aB A) (pI1 (aP A k))) (vs (aB A) (pI2 (aP A k))) h → (∀ cl : Nat, cl < vs (aB A) (pI1 (aP A k)) * vs (aB A) (pI2 (aP A k)) → hAI h (m + 19) cl = Int32.ofInt (cnI A k cl)) → cl + q = vs (aB A) (pI1 (aP A k)) * vs (aB A) (pI2 (aP A k)) → q + 1 < fu → ∃ h' : MHp, mX16_isWide_l5 fu h m out 1 (Int32.ofNat cl) = some (if allF (wdQ A k out) q cl = true then 1 else 0, h') ∧ Rq m h h' := by
  intro q
  induction q with
  | zero =>
    intro cl fu h R G hx hq hf
    obtain ⟨fu, rfl⟩ : ∃ g : Nat, fu = g + 1 := ⟨fu - 1, by omega⟩
    obtain ⟨L, g1, g2, g3, g4, g5⟩ := id G
    have K := qK0 L
    refine ⟨h, ?_, Rs.rf, rfl, rfl⟩
    rw [mX16_isWide_l5, b_gI, if_pos K, g1, b_gI, if_pos K, g2, ← Int32.ofNat_mul, if_pos (by rw [le_of (by omega) (by omega)]; omega), rB1, o_bind, allF_0]; rfl
  | succ q ih =>
    intro cl fu h R G hx hq hf
    obtain ⟨fu, rfl⟩ : ∃ g : Nat, fu = g + 2 := ⟨fu - 2, by omega⟩
    obtain ⟨L, g1, g2, g3, g4, g5⟩ := id G
    have K := qK0 L
    have hcl : cl < vs (aB A) (pI1 (aP A k)) * vs (aB A) (pI2 (aP A k)) := by omega
    have c0 : ¬ Int32.ofNat (vs (aB A) (pI1 (aP A k)) * vs (aB A) (pI2 (aP A k))) ≤ Int32.ofNat cl := by rw [le_of (by omega) (by omega)]; omega
    have f1 := q_isShy R (show cl < 100 by omega) (by rw [hx cl hcl, ← cnC_I] : hAI h (m + 19) cl = cnC A k cl)
    -- a flag of 0 ends the loop
    have stop : ∀ (h' : MHp), QL m h' → hI h' m 45 = Int32.ofNat (vs (aB A) (pI1 (aP A k))) → hI h' m 46 = Int32.ofNat (vs (aB A) (pI2 (aP A k))) → mX16_isWide_l5 (fu + 1) h' m out 0 (Int32.ofNat (cl + 1)) = some (0, h') := fun h' L' x45 x46 => by
      have K' := qK0 L'
      rw [mX16_isWide_l5, b_gI, if_pos K', x45, b_gI, if_pos K', x46, ← Int32.ofNat_mul]
      by_cases e : Int32.ofNat (vs (aB A) (pI1 (aP A k)) * vs (aB A) (pI2 (aP A k))) ≤ Int32.ofNat (cl + 1)
      · rw [if_pos e, rB0, o_bind]
      · rw [if_neg e, if_pos rfl, rB0, o_bind]
    have base : mX16_isWide_l5 (fu + 2) h m out 1 (Int32.ofNat cl) = (if (if shQ A k cl = true then (1 : Int32) else 0) = 0 then mX16_isWide_l5 (fu + 1) h m out 1 (Int32.ofNat (cl + 1)) else (mX16_has h out (Int32.ofNat cl)).bind fun r5 => (if r5 = 0 then mX16_isWide_l5 (fu + 1) h m out 0 (Int32.ofNat (cl + 1)) else (rcv 17 h (some m)).bind fun b7 => (mX16_highOf h b7 out (Int32.ofNat cl)).bind fun r6 => (rcv 17 r6.2 (some m)).bind fun b9 => (mX16_lowOf r6.2 b9 out (Int32.ofNat cl)).bind fun r8 => (gI 17 38 r8.2 (some m)).bind fun x10 => (if (r6.1 - r8.1) < x10 then mX16_isWide_b67 (mX16_isWide_l5 (fu + 1)) r8.2 m out (Int32.ofNat cl) else mX16_isWide_b63 (mX16_isWide_l5 (fu + 1)) r8.2 m out (Int32.ofNat cl)))) := by
      rw [mX16_isWide_l5, b_gI, if_pos K, g1, b_gI, if_pos K, g2, ← Int32.ofNat_mul, if_neg c0, if_neg n10, b_rcv, if_pos K, f1, o_bind, mX16_isWide_b63, mX16_isWide_b68, mX16_isWide_b67, mX16_isWide_b68, s1_of]
    by_cases s : shQ A k cl = true
    · rw [if_pos s, if_neg n10, q_has _ (by omega), o_bind] at base
      by_cases o : bL out cl = true
      · rw [if_pos o, if_neg n10, b_rcv, if_pos K] at base
        obtain ⟨i, j, hi, hj, ecl⟩ := cell_ij g4.1 hcl
        have o' : bL out (i * vs (aB A) (pI2 (aP A k)) + j) = true := by rw [← ecl]; exact o
        have x0n : ∀ cl : Nat, cl < vs (aB A) (pI1 (aP A k)) * vs (aB A) (pI2 (aP A k)) → 0 ≤ cnI A k cl := fun cl _ => cnI_0 A k cl
        obtain ⟨h1, v1, e1, S1, B1⟩ := q_highOf (out := out) G hi hj hx x0n (cnI_60 W hk) o'
        have G1 := G.sc S1.1 S1.2.1
        have hx1 : ∀ cl : Nat, cl < vs (aB A) (pI1 (aP A k)) * vs (aB A) (pI2 (aP A k)) → hAI h1 (m + 19) cl = Int32.ofInt (cnI A k cl) := fun cl hcl => by rw [S1.2.2]; exact hx cl hcl
        obtain ⟨h2, v2, e2, S2, B2⟩ := q_lowOf (out := out) G1 hi hj hx1 x0n (cnI_60 W hk) o'
        have G2 := G1.sc S2.1 S2.2.1
        have R2 := (R.sc S1.1).sc S2.1
        have x38 : hI h2 m 38 = aS A 7 := R2.2.1.2.2.2.2.2.2.2.2.2.2.2.1
        rw [← ecl] at e1 e2 B1 B2
        have b1 := bV_eq B1
        have b2 := bV_eq B2
        have wq : wdQ A k out cl = decide (aS A 7 ≤ Int32.ofInt v1 - Int32.ofInt v2) := by
          unfold wdQ
          rw [s, o, b1, b2]
          simp
        by_cases w : aS A 7 ≤ Int32.ofInt v1 - Int32.ofInt v2
        · obtain ⟨h3, e3, S3⟩ := ih (cl + 1) (fu + 1) h2 R2 G2 (fun cl hcl => by rw [S2.2.2]; exact hx1 cl hcl) (by omega) (by omega)
          refine ⟨h3, ?_, (S1.tr S2).tr S3⟩
          rw [base, e1, o_bind, b_rcv, if_pos (qK0 G1.1), e2, o_bind, b_gI, if_pos (qK0 G2.1), x38, if_neg (fun hh => Int32.not_le.mpr hh w), mX16_isWide_b63, mX16_isWide_b68, s1_of, e3, allF_s, wq, decide_eq_true w, Bool.true_and]
        · refine ⟨h2, ?_, S1.tr S2⟩
          rw [base, e1, o_bind, b_rcv, if_pos (qK0 G1.1), e2, o_bind, b_gI, if_pos (qK0 G2.1), x38, if_pos (Int32.not_le.mp w), mX16_isWide_b67, mX16_isWide_b68, s1_of, stop h2 G2.1 G2.2.1 G2.2.2.1, allF_s, wq, decide_eq_false w, Bool.false_and, if_neg (by decide)]
      · rw [if_neg o, if_pos rfl] at base
        have wq : wdQ A k out cl = false := by
          unfold wdQ
          rw [s]
          simp [o]
        refine ⟨h, ?_, Rs.rf, rfl, rfl⟩
        rw [base, stop h L g1 g2, allF_s, wq, Bool.false_and, if_neg (by decide)]
    · rw [if_neg s, if_pos rfl] at base
      have wq : wdQ A k out cl = true := by
        unfold wdQ
        have : shQ A k cl = false := by simpa using s
        rw [this]; rfl
      obtain ⟨h3, e3, S3⟩ := ih (cl + 1) (fu + 1) h R G hx (by omega) (by omega)
      refine ⟨h3, ?_, S3⟩
      rw [base, e3, allF_s, wq, Bool.true_and]
theorem q_isWide {m k : Nat} {out : Int64} {h : MHp} {A : AS} (W : WA A) (hk : k < aN A 1) (R : RR m h A) (G : Rc m (vs (aB A) (pI1 (aP A k))) (vs (aB A) (pI2 (aP A k))) h) (hx : ∀ cl : Nat, cl < vs (aB A) (pI1 (aP A k)) * vs (aB A) (pI2 (aP A k)) → hAI h (m + 19) cl = Int32.ofInt (cnI A k cl)) : ∃ h' : MHp, mX16_isWide h m out = some (if wdA A k out = true then 1 else 0, h') ∧ Rq m h h' := by
  have n60 := G.2.2.2.2.2
  obtain ⟨h1, e1, S1⟩ := q_wdl (out := out) W hk (vs (aB A) (pI1 (aP A k)) * vs (aB A) (pI2 (aP A k))) 0 FUEL h R G hx (by omega) (by unfold FUEL; omega)
  exact ⟨h1, e1, S1⟩
theorem wid_b {c : Nat} {h : MHp} (L : CL c h) (t : Int32) (o : Int64) (v : Int32) (hv : ¬ v = 0) : mX11_wide_b43 h c t o (some c) v = some (-1, sI h c 15 v) := by
  have K : hK (sI h c 15 v) c = 12 := lK0 L
  rw [mX11_wide_b43, b_pI, if_pos (lK0 L), b_gI, if_pos K, e_Iself, if_neg hv]
theorem x_wide {c m : Nat} {h : MHp} {A : AS} (C : CR c h A) (W : WA A) (t : Int32) (o : Int64) : XS c m h A (mX11_wide h c t o) (fun h1 => mX16_wide h1 m t o) := by
  have L := C.l
  have h8 := W.2.2.1
  rcases rng t (aN A 1) with ⟨k, hk, rfl⟩ | hno
  · have e1 := p_hasTable1 C W hk
    have e2 := p_hasGuarded C W hk
    have WPk := W.2.2.2.2.2.1 k hk
    have b0 := gf_pos W hk
    have bd := bad_n (k := k) (n := 9) (by omega) (by omega)
    have bk := bad_n (k := k) (n := 8) (by omega) (by omega)
    have clk : (Int32.ofNat k).toNatClampNeg = k := cl_of (by omega)
    obtain ⟨c1, c2, c3, -, -⟩ := C.plan W hk
    by_cases g : gdB (aB A) (aP A k) = true
    · rw [if_pos g] at e2
      have n60 := gdB_60 g
      have base : mX11_wide h c (Int32.ofNat k) o = mX11_wide_b43 h c (Int32.ofNat k) o (some c) (if btB o (vs (aB A) (pI1 (aP A k)) * vs (aB A) (pI2 (aP A k))) = true then 0 else 2) := by
        rw [mX11_wide, b_rcv, if_pos (lK0 L), e1, o_bind, if_neg n10, b_rcv, if_pos (lK0 L), e2, o_bind, if_neg n10, b_gR, if_pos (lK0 L), lR0_3 L, b_gAR, if_pos (lK119 L), lN119 L, if_neg bd, clk, c2, b_rcv, if_pos c1.1, p_hasBits c1 c3 n60, o_bind]
        by_cases g2 : btB o (vs (aB A) (pI1 (aP A k)) * vs (aB A) (pI2 (aP A k))) = true
        · rw [if_pos g2, if_neg n10, if_pos g2]
        · rw [if_neg g2, if_pos rfl, if_neg g2]
      have rbase : ∀ h1 : MHp, RR m h1 A → ∃ h4 : MHp, Rs m (sI h1 m 0 0) h4 ∧ Rc m (vs (aB A) (pI1 (aP A k))) (vs (aB A) (pI2 (aP A k))) h4 ∧ (∀ cl : Nat, cl < vs (aB A) (pI1 (aP A k)) * vs (aB A) (pI2 (aP A k)) → hAI h4 (m + 19) cl = Int32.ofInt (cnI A k cl)) ∧ mX16_wide h1 m (Int32.ofNat k) o = (if btB o (vs (aB A) (pI1 (aP A k)) * vs (aB A) (pI2 (aP A k))) = true then (rcv 17 h4 (some m)).bind fun b18 => (mX16_isWide h4 b18 o).bind fun r17 => (if r17.1 = 0 then mX16_wide_b80 r17.2 (some m) 0 else mX16_wide_b80 r17.2 (some m) 1) else some (-1, rtb m h4 2)) := by
        intro h1 R
        have R2 := R.th 0
        have M := R2.1.1
        have f1 := q_isTable1 R2 W hk
        obtain ⟨b, Q⟩ := R2.rq W b0
        obtain ⟨p, q1, q2, -, -⟩ := R2.2.2.2.2.2 k hk
        have f2 := q_isByTwo Q q2 WPk
        rw [if_pos g] at f2
        obtain ⟨h4, f3, S4, G4, zi, -⟩ := r_open Q q2 W hk g
        have M4 := G4.1
        have K4 := qK0 M4
        refine ⟨h4, S4, G4, zi, ?_⟩
        rw [mX16_wide, b_pI, if_pos (qK0 R.1.1), b_rcv, if_pos (qK0 M), f1, o_bind, if_neg n10, b_gR, if_pos (qK0 M), qR6 M, b_gAR, if_pos (qK1 M), qN1 M, if_neg bk, clk, q1, b_rcv, if_pos (qK0 M), f2, o_bind, if_neg n10, b_gR, if_pos (qK0 M), qR6 M, b_gAR, if_pos (qK1 M), qN1 M, if_neg bk, clk, q1, b_gR, if_pos (qK0 M), qR42 M, b_rcv, if_pos (qK0 M), f3, o_bind, b_rcv, if_pos K4, q_areBits G4, o_bind]
        by_cases g2 : btB o (vs (aB A) (pI1 (aP A k)) * vs (aB A) (pI2 (aP A k))) = true
        · rw [if_pos g2, if_neg n10, if_pos g2]
        · rw [if_neg g2, if_pos rfl, if_neg g2, b_rcv, if_pos K4, q_refused M4 2, o_bind]
      by_cases g2 : btB o (vs (aB A) (pI1 (aP A k)) * vs (aB A) (pI2 (aP A k))) = true
      · have C2 : CR c (sI h c 15 0) (tb A 0) := C.tb (by decide)
        have W2 : WA (tb A 0) := W.tb
        have L2 := C2.l
        have K2 := lK0 L2
        have e5 := p_hasTable1 C2 W2 hk
        obtain ⟨p1, p2, p3, -, -⟩ := C2.plan W2 hk
        obtain ⟨h3, e6, S3, G3, zi, zc⟩ := c_open C2 W2 hk g
        have C3 := C2.sc W2 S3
        have L3 := C3.l
        have x6 : hAI h3 (c + 184) 0 = aS A 6 := C3.2.2.1.1
        have x7 : hAI h3 (c + 184) 1 = aS A 7 := C3.2.2.1.2.1
        have e7 : mX3_shyCells h3 (c + 200) (aS A 6) = some (msL (shQ A k) (vs (aB A) (pI1 (aP A k)) * vs (aB A) (pI2 (aP A k))) 0 0) := p_shyCells (A := tb A 0) L3 G3.2.1 G3.2.2.1 n60 zc
        obtain ⟨h4, e8, S4⟩ := p_isWide (out := o) W2 hk G3 zi
        have e8' : mX3_isWide h3 (c + 200) o (msL (shQ A k) (vs (aB A) (pI1 (aP A k)) * vs (aB A) (pI2 (aP A k))) 0 0) (aS A 7) = some (if wdA A k o = true then 1 else 0, h4) := e8
        refine ⟨if wdA A k o = true then 1 else 0, tb A 0, W2, ⟨h4, ?_, C3.sc W2 S4.1, ((Oc.I0 15 0).tr S3.oc).tr S4.1.oc⟩, fun h1 R => ?_⟩
        · rw [base, if_pos g2, mX11_wide_b43, b_pI, if_pos (lK0 L), b_gI, if_pos K2, e_Iself, if_pos (show (0 : Int32) = 0 from rfl), b_rcv, if_pos K2, e5, o_bind, if_neg n10, b_gR, if_pos K2, lR0_10 L2, b_gR, if_pos K2, lR0_3 L2, b_gAR, if_pos (lK119 L2), lN119 L2, if_neg bd, clk, p2, b_rcv, if_pos (lK200 L2), e6, o_bind, b_gR, if_pos (lK0 L3), lR0_10 L3, b_gR, if_pos (lK0 L3), lR0_10 L3, b_gR, if_pos (lK0 L3), lR0_5 L3, b_gAI, if_pos (lK184 L3), lN184 L3, if_neg (show ¬ bad 0 4 = true by decide), show (0 : Int32).toNatClampNeg = 0 from rfl, x6, b_rcv, if_pos (lK200 L3), e7, o_bind, b_gR, if_pos (lK0 L3), lR0_5 L3, b_gAI, if_pos (lK184 L3), lN184 L3, if_neg (show ¬ bad 1 4 = true by decide), show (1 : Int32).toNatClampNeg = 1 from rfl, x7, b_rcv, if_pos (lK200 L3), e8', o_bind]
          by_cases w : wdA A k o = true
          · rw [if_pos w, if_neg n10]
          · rw [if_neg w, if_pos rfl]
        · obtain ⟨h5, S5, G5, zr, f0⟩ := rbase h1 R
          have R5 := (R.th 0).sc S5
          obtain ⟨h6, f1, S6⟩ := q_isWide (out := o) W hk R5 G5 zr
          have R6 := R5.sc S6.1
          refine ⟨rtb m h6 0, ?_, R6.tb (by decide), (((Om.th 0).tr S5.om).tr S6.1.om).tr Om.tb⟩
          show mX16_wide h1 m (Int32.ofNat k) o = _
          rw [f0, if_pos g2, b_rcv, if_pos (qK0 G5.1), f1, o_bind]
          by_cases w : wdA A k o = true
          · rw [if_pos w, if_neg n10, mX16_wide_b80, b_rcv, if_pos (qK0 R6.1.1), q_done R6.1.1, o_bind]
          · rw [if_neg w, if_pos rfl, mX16_wide_b80, b_rcv, if_pos (qK0 R6.1.1), q_done R6.1.1, o_bind]
      · refine XS.no (v := -1) 2 (by decide) C W (fun _ _ => Or.inr trivial) ?_ (fun h1 R => ?_)
        · rw [base, if_neg g2, wid_b L _ _ 2 n20]
        · obtain ⟨h5, S5, G5, zr, f0⟩ := rbase h1 R
          refine ⟨h5, (Rs.I 0 0 (by decide)).tr S5, ?_⟩
          show mX16_wide h1 m (Int32.ofNat k) o = _
          rw [f0, if_neg g2]
    · rw [if_neg g] at e2
      refine XS.no (v := -1) 5 (by decide) C W (fun _ _ => Or.inr trivial) ?_ (fun h1 R => ⟨sI h1 m 0 0, Rs.I 0 0 (by decide), ?_⟩)
      · rw [mX11_wide, b_rcv, if_pos (lK0 L), e1, o_bind, if_neg n10, b_rcv, if_pos (lK0 L), e2, o_bind, if_pos rfl, wid_b L _ _ 5 n50]
      · have R2 := R.th 0
        have M := R2.1.1
        have f1 := q_isTable1 R2 W hk
        obtain ⟨b, Q⟩ := R2.rq W b0
        obtain ⟨p, q1, q2, -, -⟩ := R2.2.2.2.2.2 k hk
        have f2 := q_isByTwo Q q2 WPk
        rw [if_neg g] at f2
        show mX16_wide h1 m (Int32.ofNat k) o = _
        rw [mX16_wide, b_pI, if_pos (qK0 R.1.1), b_rcv, if_pos (qK0 M), f1, o_bind, if_neg n10, b_gR, if_pos (qK0 M), qR6 M, b_gAR, if_pos (qK1 M), qN1 M, if_neg bk, clk, q1, b_rcv, if_pos (qK0 M), f2, o_bind, if_pos rfl, b_rcv, if_pos (qK0 M), q_refused M 5, o_bind]
  · have e1 := p_hasTable0 C W hno
    refine XS.no (v := -1) 1 (by decide) C W (fun _ _ => Or.inr trivial) ?_ (fun h1 R => ⟨sI h1 m 0 0, Rs.I 0 0 (by decide), ?_⟩)
    · rw [mX11_wide, b_rcv, if_pos (lK0 L), e1, o_bind, if_pos rfl, wid_b L _ _ 1 n10]
    · have R2 := R.th 0
      have M := R2.1.1
      have f1 := q_isTable0 R2 W hno
      show mX16_wide h1 m t o = _
      rw [mX16_wide, b_pI, if_pos (qK0 R.1.1), b_rcv, if_pos (qK0 M), f1, o_bind, if_pos rfl, b_rcv, if_pos (qK0 M), q_refused M 1, o_bind]

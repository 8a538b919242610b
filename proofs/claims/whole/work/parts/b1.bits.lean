/-! bits of a long -/
def bL (x : Int64) (k : Nat) : Bool := x.toBitVec.getLsbD k
theorem bv1_0 (v : BitVec 64) : (v &&& 1#64 = 0#64) ↔ v.getLsbD 0 = false := by
  constructor
  · intro h
    have := congrArg (fun y : BitVec 64 => y.getLsbD 0) h
    simpa using this
  · intro h
    apply BitVec.eq_of_getLsbD_eq
    intro i hi
    by_cases e : i = 0
    · subst e; rw [BitVec.getLsbD_and, h, Bool.false_and, BitVec.getLsbD_zero]
    · simp [e]
theorem bv1_1 (v : BitVec 64) : (v &&& 1#64 = 1#64) ↔ v.getLsbD 0 = true := by
  constructor
  · intro h
    have := congrArg (fun y : BitVec 64 => y.getLsbD 0) h
    simpa using this
  · intro h
    apply BitVec.eq_of_getLsbD_eq
    intro i hi
    by_cases e : i = 0
    · subst e; simp [h]
    · simp [e]
theorem l1_0 (y : Int64) : (y &&& 1 = 0) = (y.toBitVec.getLsbD 0 = false) := by
  rw [← Int64.toBitVec_inj]
  exact propext (bv1_0 y.toBitVec)
theorem l1_1 (y : Int64) : (y &&& 1 = 1) = (y.toBitVec.getLsbD 0 = true) := by
  rw [← Int64.toBitVec_inj]
  exact propext (bv1_1 y.toBitVec)
theorem sh_u {k : Nat} (hk : k < 64) : (((Int32.ofNat k).toInt64.toUInt64 &&& Int64.toUInt64 63).toBitVec % 64).toNat = k := by
  have : ∀ k : Nat, k < 64 → (((Int32.ofNat k).toInt64.toUInt64 &&& Int64.toUInt64 63).toBitVec % 64).toNat = k := by decide +kernel
  exact this k hk
theorem sh_s {k : Nat} (hk : k < 64) : (((Int32.ofNat k).toInt64 &&& 63).toBitVec.smod 64).toNat = k := by
  have : ∀ k : Nat, k < 64 → (((Int32.ofNat k).toInt64 &&& 63).toBitVec.smod 64).toNat = k := by decide +kernel
  exact this k hk
theorem shr_u (x : Int64) {k : Nat} (hk : k < 64) : (x.toUInt64 >>> ((Int32.ofNat k).toInt64.toUInt64 &&& Int64.toUInt64 63)).toInt64.toBitVec = x.toBitVec >>> k := by
  show x.toBitVec >>> (((Int32.ofNat k).toInt64.toUInt64 &&& Int64.toUInt64 63).toBitVec % 64) = _
  rw [BitVec.ushiftRight_eq', sh_u hk]
theorem shr_s (x : Int64) {k : Nat} (hk : k < 64) : (x >>> ((Int32.ofNat k).toInt64 &&& 63)).toBitVec = x.toBitVec.sshiftRight k := by
  show x.toBitVec.sshiftRight (((Int32.ofNat k).toInt64 &&& 63).toBitVec.smod 64).toNat = _
  rw [sh_s hk]
theorem shl_s {k : Nat} (hk : k < 64) : ((1 : Int64) <<< ((Int32.ofNat k).toInt64 &&& 63)).toBitVec = 1#64 <<< k := by
  show (1#64 : BitVec 64) <<< (((Int32.ofNat k).toInt64 &&& 63).toBitVec.smod 64) = _
  rw [BitVec.shiftLeft_eq', sh_s hk]
theorem p_left {h : MHp} {k : Nat} (x : Int64) (hk : k < 64) : mX11_isLeftOut h (Int32.ofNat k) x = some (if bL x k = true then 1 else 0) := by
  have e : ((x.toUInt64 >>> ((Int32.ofNat k).toInt64.toUInt64 &&& Int64.toUInt64 63)).toInt64 &&& 1 = 0) = (bL x k = false) := by
    rw [l1_0, shr_u x hk, BitVec.getLsbD_ushiftRight, Nat.add_zero]; rfl
  rw [mX11_isLeftOut]
  by_cases g : bL x k = true
  · rw [if_neg (by rw [lg0, e, g]; decide), if_pos g]
  · rw [if_pos (by rw [lg0, e]; simpa using g), if_neg g]
theorem q_has {h : MHp} {k : Nat} (x : Int64) (hk : k < 64) : mX16_has h x (Int32.ofNat k) = some (if bL x k = true then 1 else 0) := by
  have e : ((x >>> ((Int32.ofNat k).toInt64 &&& 63)) &&& 1 = 1) = (bL x k = true) := by
    rw [l1_1, shr_s x hk, BitVec.getLsbD_sshiftRight]
    simp [bL, hk]
  rw [mX16_has]
  by_cases g : bL x k = true
  · rw [if_pos (by rw [lg0, e]; exact g), if_pos g]
  · rw [if_neg (by rw [lg0, e]; exact g), if_neg g]
/-- no bits from n on -/
def btB (x : Int64) (n : Nat) : Bool := decide (x.toBitVec >>> n = 0#64)
theorem btB_iff {x : Int64} {n : Nat} : btB x n = true ↔ ∀ j : Nat, n ≤ j → bL x j = false := by
  unfold btB
  rw [decide_eq_true_eq]
  constructor
  · intro h j hj
    have := congrArg (fun y : BitVec 64 => y.getLsbD (j - n)) h
    simp only [BitVec.getLsbD_ushiftRight, BitVec.getLsbD_zero, show n + (j - n) = j by omega] at this
    exact this
  · intro h
    apply BitVec.eq_of_getLsbD_eq
    intro i hi
    rw [BitVec.getLsbD_ushiftRight, BitVec.getLsbD_zero]
    exact h (n + i) (by omega)
theorem p_bits (x : Int64) {n : Nat} (hn : n < 64) : (lg_cmp (x.toUInt64 >>> ((Int32.ofNat n).toInt64.toUInt64 &&& Int64.toUInt64 63)).toInt64 0 = 0) = (btB x n = true) := by
  rw [lg0, ← Int64.toBitVec_inj, shr_u x hn]
  unfold btB
  rw [decide_eq_true_eq]
  rfl
theorem q_bits (x : Int64) {n : Nat} (hn : n < 63) : (if lg_cmp x 0 < 0 then false else decide (lg_cmp (x >>> ((Int32.ofNat n).toInt64 &&& 63)) 0 = 0)) = btB x n := by
  have m : (lg_cmp x 0 < 0) = (x.toBitVec.msb = true) := by
    rw [show (lg_cmp x 0 < 0) = (x < 0) from propext (lg_cmp_lt x 0), Int64.lt_iff_toInt_lt, BitVec.msb_eq_toInt, decide_eq_true_eq]
    rfl
  have b63 : x.toBitVec.msb = bL x 63 := by rw [BitVec.msb_eq_getLsbD_last]; rfl
  by_cases g : x.toBitVec.msb = true
  · rw [if_pos (by rw [m]; exact g)]
    have : ¬ btB x n = true := fun h => by
      have := btB_iff.mp h 63 (by omega)
      rw [← b63, g] at this
      cases this
    simpa using this
  · rw [if_neg (by rw [m]; exact g)]
    have g2 : x.toBitVec.msb = false := by simpa using g
    have e : x.toBitVec.sshiftRight n = x.toBitVec >>> n := by
      apply BitVec.eq_of_getLsbD_eq
      intro i hi
      rw [BitVec.getLsbD_sshiftRight, BitVec.getLsbD_ushiftRight, g2]
      by_cases e : n + i < 64
      · simp [e, hi]
      · simp [e, hi, BitVec.getLsbD_of_ge _ _ (show 64 ≤ n + i by omega)]
    unfold btB
    refine decide_eq_decide.mpr ?_
    rw [lg0, ← Int64.toBitVec_inj, shr_s x (by omega), e]
    exact Iff.rfl
/-- the long of the bits of those for which p is -/
def msL (p : Nat → Bool) : Nat → Nat → Int64 → Int64
  | 0, _, a => a
  | q + 1, k, a => msL p q (k + 1) (if p k = true then a ||| (1 <<< ((Int32.ofNat k).toInt64 &&& 63)) else a)
theorem msL_0 (p : Nat → Bool) (k : Nat) (a : Int64) : msL p 0 k a = a := (rfl)
theorem msL_s (p : Nat → Bool) (q k : Nat) (a : Int64) : msL p (q + 1) k a = msL p q (k + 1) (if p k = true then a ||| (1 <<< ((Int32.ofNat k).toInt64 &&& 63)) else a) := (rfl)
theorem bL_or (a b : Int64) (j : Nat) : bL (a ||| b) j = (bL a j || bL b j) := by
  unfold bL
  rw [Int64.toBitVec_or, BitVec.getLsbD_or]
theorem bL_1 {k : Nat} (hk : k < 64) (j : Nat) : bL ((1 : Int64) <<< ((Int32.ofNat k).toInt64 &&& 63)) j = decide (j = k) := by
  unfold bL
  rw [shl_s hk, BitVec.getLsbD_shiftLeft, BitVec.getLsbD_one]
  by_cases e : j = k
  · subst e; simp [hk]
  · by_cases e2 : j < k
    · simp [e, e2]
    · have : ¬ j - k = 0 := by omega
      simp [e, this]
theorem bL_msL (p : Nat → Bool) : ∀ (q k : Nat) (a : Int64) (j : Nat), k + q ≤ 64 → bL (msL p q k a) j = (bL a j || (decide (k ≤ j ∧ j < k + q) && p j)) := by
  intro q
  induction q with
  | zero =>
    intro k a j _
    rw [msL_0]
    have : ¬ (k ≤ j ∧ j < k + 0) := by omega
    rw [decide_eq_false this, Bool.false_and, Bool.or_false]
  | succ q ih =>
    intro k a j hk
    rw [msL_s, ih (k + 1) _ j (by omega)]
    by_cases g : p k = true
    · rw [if_pos g, bL_or, bL_1 (by omega)]
      by_cases e : j = k
      · subst e
        have e2 : (j ≤ j ∧ j < j + (q + 1)) := by omega
        simp [g, e2]
      · have e3 : decide (k + 1 ≤ j ∧ j < k + 1 + q) = decide (k ≤ j ∧ j < k + (q + 1)) := decide_eq_decide.mpr ⟨fun h => by omega, fun h => by omega⟩
        rw [e3, decide_eq_false e, Bool.or_false]
    · rw [if_neg g]
      by_cases e : j = k
      · subst e
        have e2 : ¬ (j + 1 ≤ j ∧ j < j + 1 + q) := by omega
        have g2 : p j = false := by simpa using g
        simp [g2]
      · have e3 : decide (k + 1 ≤ j ∧ j < k + 1 + q) = decide (k ≤ j ∧ j < k + (q + 1)) := decide_eq_decide.mpr ⟨fun h => by omega, fun h => by omega⟩
        rw [e3]
theorem bL_0 (j : Nat) : bL 0 j = false := by
  show (0#64).getLsbD j = false
  simp
/-! tables whose cells can be left out -/
def gdB (B : Bk) (P : Pl) : Bool := decide (pS P = none ∧ pI2 P ≠ none ∧ vs B (pI1 P) * vs B (pI2 P) ≤ 60)
theorem gdB_60 {B : Bk} {P : Pl} (h : gdB B P = true) : vs B (pI1 P) * vs B (pI2 P) ≤ 60 := by
  unfold gdB at h
  rw [decide_eq_true_eq] at h
  exact h.2.2
theorem oi_n {o : Option Nat} {n : Nat} (hn : n ≤ 6) (W : WO n o) : (oi o = -1) = (o = none) := by
  cases o with
  | none => exact propext ⟨fun _ => rfl, fun _ => rfl⟩
  | some f =>
    have := W f rfl
    have e := nm_of (k := f) (by omega)
    exact propext ⟨fun h => absurd h e, fun h => by cases h⟩
theorem p_cells {h : MHp} {p : Nat} {B : Bk} {P : Pl} (I : IsP h p) (C : CP h p B P) : mX7_cells h p = some (Int32.ofNat (vs B (pI1 P) * vs B (pI2 P))) := by
  rw [mX7_cells, b_gI, if_pos I.1, C.2.2.2.1, b_gI, if_pos I.1, C.2.2.2.2.1, ← Int32.ofNat_mul]
theorem p_isGuarded {h : MHp} {p : Nat} {B : Bk} {P : Pl} (I : IsP h p) (C : CP h p B P) (WB0 : WB B) (W : WP B P) : mX7_isGuarded h p = some (if gdB B P = true then 1 else 0) := by
  have hm := vs_mul WB0 W.2.1 W.2.2.1
  have e1 := oi_n WB0.1 W.1
  have e2 := oi_n WB0.1 W.2.2.1
  rw [mX7_isGuarded, b_gI, if_pos I.1, C.1]
  by_cases g1 : pS P = none
  · rw [if_pos (by rw [e1]; exact g1), b_gI, if_pos I.1, C.2.2.1]
    by_cases g2 : pI2 P = none
    · rw [if_pos (by rw [e2]; exact g2)]; simp [gdB, g2]
    · rw [if_neg (by rw [e2]; exact g2), b_rcv, if_pos I.1, p_cells I C, o_bind]
      by_cases g3 : vs B (pI1 P) * vs B (pI2 P) ≤ 60
      · rw [if_neg (by rw [show (60 : Int32) = Int32.ofNat 60 from rfl, lt_of (by omega) (by omega)]; omega)]; simp [gdB, g1, g2, g3]
      · rw [if_pos (by rw [show (60 : Int32) = Int32.ofNat 60 from rfl, lt_of (by omega) (by omega)]; omega)]; simp [gdB, g3]
  · rw [if_neg (by rw [e1]; exact g1)]; simp [gdB, g1]
theorem p_hasGuarded {c k : Nat} {h : MHp} {A : AS} (C : CR c h A) (W : WA A) (hk : k < aN A 1) : mX11_hasGuarded h c (Int32.ofNat k) = some (if gdB (aB A) (aP A k) = true then 1 else 0) := by
  have L := C.l
  have h8 := W.2.2.1
  have e1 := p_hasTable1 C W hk
  obtain ⟨p1, p2, p3, -, p5⟩ := C.plan W hk
  have bd := bad_n (k := k) (n := 9) (by omega) (by omega)
  have clk : (Int32.ofNat k).toNatClampNeg = k := cl_of (by omega)
  rw [mX11_hasGuarded, b_rcv, if_pos (lK0 L), e1, o_bind, if_neg n10, b_gR, if_pos (lK0 L), lR0_3 L, b_gAR, if_pos (lK119 L), lN119 L, if_neg bd, clk, p2, b_rcv, if_pos p1.1, p_isGuarded p1 p3 W.1 p5, o_bind]
  by_cases g : gdB (aB A) (aP A k) = true
  · rw [if_pos g, if_neg n10]
  · rw [if_neg g, if_pos rfl]
theorem q_isByTwo {m b n p : Nat} {h : MHp} {A : AS} {P : Pl} (Q : RQ m b n h A) (R : RP (m + 26) h p P) (W : WP (aB A) P) : mX16_isByTwo h m (some p) = some (if gdB (aB A) P = true then 1 else 0) := by
  have WB0 := Q.2.2.2.1
  have K := qK0 Q.1.1
  have hm := vs_mul WB0 W.2.1 W.2.2.1
  have e1 := oi_n WB0.1 W.1
  have e2 := oi_n WB0.1 W.2.2.1
  have p1 := R.1.1
  have f1 := q_valuesOf Q W.2.1
  have f2 := q_valuesOf Q W.2.2.1
  rw [mX16_isByTwo, b_gI, if_pos p1, R.2.1]
  by_cases g1 : pS P = none
  · rw [if_pos (by rw [e1]; exact g1), b_gI, if_pos p1, R.2.2.2.1]
    by_cases g2 : pI2 P = none
    · rw [if_pos (by rw [e2]; exact g2)]; simp [gdB, g2]
    · rw [if_neg (by rw [e2]; exact g2), b_gI, if_pos p1, R.2.2.1, b_rcv, if_pos K, f1, o_bind, b_gI, if_pos p1, R.2.2.2.1, b_rcv, if_pos K, f2, o_bind, ← Int32.ofNat_mul]
      by_cases g3 : vs (aB A) (pI1 P) * vs (aB A) (pI2 P) ≤ 60
      · rw [if_neg (by rw [show (60 : Int32) = Int32.ofNat 60 from rfl, lt_of (by omega) (by omega)]; omega)]; simp [gdB, g1, g2, g3]
      · rw [if_pos (by rw [show (60 : Int32) = Int32.ofNat 60 from rfl, lt_of (by omega) (by omega)]; omega)]; simp [gdB, g3]
  · rw [if_neg (by rw [e1]; exact g1)]; simp [gdB, g1]
/-! shy cells -/
def shQ (A : AS) (k cl : Nat) : Bool := decide (1 ≤ cnC A k cl ∧ cnC A k cl ≤ aS A 6 - 1)
theorem c_shl {c k ls cs : Nat} {h : MHp} {A : AS} (L : CL c h) (e6 : hI h (c + 200) 6 = Int32.ofNat ls) (e7 : hI h (c + 200) 7 = Int32.ofNat cs) (hn : ls * cs ≤ 60) (hc : ∀ cl : Nat, cl < 100 → hAI h (c + 201) cl = cnC A k cl) : ∀ (q fu cl : Nat) (a : Int64), cl + q = ls * cs → q < fu → mX3_shyCells_l5 h fu (c + 200) (aS A 6) a (Int32.ofNat cl) = some (msL (shQ A k) q cl a) := by
  intro q
  have K := lK200 L
  induction q with
  | zero =>
    intro fu cl a hq hf
    obtain ⟨fu, rfl⟩ : ∃ g : Nat, fu = g + 1 := ⟨fu - 1, by omega⟩
    rw [mX3_shyCells_l5, b_gI, if_pos K, e6, b_gI, if_pos K, e7, ← Int32.ofNat_mul, if_pos (by rw [le_of (by omega) (by omega)]; omega), msL_0]
  | succ q ih =>
    intro fu cl a hq hf
    obtain ⟨fu, rfl⟩ : ∃ g : Nat, fu = g + 1 := ⟨fu - 1, by omega⟩
    have bw := bad_n (k := cl) (n := 100) (by omega) (by omega)
    have clw : (Int32.ofNat cl).toNatClampNeg = cl := cl_of (by omega)
    rw [mX3_shyCells_l5, b_gI, if_pos K, e6, b_gI, if_pos K, e7, ← Int32.ofNat_mul, if_neg (by rw [le_of (by omega) (by omega)]; omega), if_neg (by rw [show (60 : Int32) = Int32.ofNat 60 from rfl, le_of (by omega) (by omega)]; omega), b_gR, if_pos K, lR200_1 L, b_gAI, if_pos (lK201 L), lN201 L, if_neg bw, clw, hc cl (by omega), p_within, o_bind, msL_s]
    by_cases g : 1 ≤ cnC A k cl ∧ cnC A k cl ≤ aS A 6 - 1
    · have g2 : shQ A k cl = true := decide_eq_true g
      rw [if_pos g, if_neg n10, if_pos g2, mX3_shyCells_b50, s1_of, ih fu (cl + 1) _ (by omega) (by omega)]
    · have g2 : ¬ shQ A k cl = true := by unfold shQ; rw [decide_eq_true_eq]; exact g
      rw [if_neg g, if_pos rfl, if_neg g2, mX3_shyCells_b50, s1_of, ih fu (cl + 1) _ (by omega) (by omega)]
theorem p_shyCells {c k ls cs : Nat} {h : MHp} {A : AS} (L : CL c h) (e6 : hI h (c + 200) 6 = Int32.ofNat ls) (e7 : hI h (c + 200) 7 = Int32.ofNat cs) (hn : ls * cs ≤ 60) (hc : ∀ cl : Nat, cl < 100 → hAI h (c + 201) cl = cnC A k cl) : mX3_shyCells h (c + 200) (aS A 6) = some (msL (shQ A k) (ls * cs) 0 0) :=
  c_shl L e6 e7 hn hc (ls * cs) FUEL 0 0 (by omega) (by unfold FUEL; omega)
theorem q_isShy {m k cl : Nat} {h : MHp} {A : AS} (R : RR m h A) (hcl : cl < 100) (hc : hAI h (m + 19) cl = cnC A k cl) : mX16_isShy h m (Int32.ofNat cl) = some (if shQ A k cl = true then 1 else 0) := by
  have L := R.1.1
  have K := qK0 L
  have bw := bad_n (k := cl) (n := 100) (by omega) (by omega)
  have clw : (Int32.ofNat cl).toNatClampNeg = cl := cl_of (by omega)
  have x37 : hI h m 37 = aS A 6 := R.2.1.2.2.2.2.2.2.2.2.2.2.1
  rw [mX16_isShy, b_gR, if_pos K, qR42 L, b_gAI, if_pos (qK19 L), qN19 L, if_neg bw, clw, hc, b_gI, if_pos K, x37, q_in, o_bind]
  by_cases g : 1 ≤ cnC A k cl ∧ cnC A k cl ≤ aS A 6 - 1
  · have g2 : shQ A k cl = true := decide_eq_true g
    rw [if_pos g, rB1, o_bind, if_pos g2]
  · have g2 : ¬ shQ A k cl = true := by unfold shQ; rw [decide_eq_true_eq]; exact g
    rw [if_neg g, rB0, o_bind, if_neg g2]

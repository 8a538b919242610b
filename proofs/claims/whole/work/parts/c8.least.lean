/-! least: sets as numbers -/
theorem bL_N {S : Nat} (hS : S < 2 ^ 64) (j : Nat) : bL (Int64.ofNat S) j = S.testBit j := by
  show (BitVec.ofNat 64 S).getLsbD j = S.testBit j
  rw [BitVec.getLsbD_ofNat]
  by_cases hj : j < 64
  · rw [decide_eq_true hj, Bool.true_and]
  · rw [decide_eq_false hj, Bool.false_and]
    exact (Nat.testBit_lt_two_pow (Nat.lt_of_lt_of_le hS (Nat.pow_le_pow_right (by omega) (by omega)))).symm
theorem bv32_1 (v : BitVec 32) : (v &&& 1#32 = 1#32) ↔ v.getLsbD 0 = true := by
  constructor
  · intro h
    have := congrArg (fun y : BitVec 32 => y.getLsbD 0) h
    simpa using this
  · intro h
    apply BitVec.eq_of_getLsbD_eq
    intro i hi
    by_cases e : i = 0
    · subst e; rw [BitVec.getLsbD_and, h, Bool.true_and]
    · simp [e]
theorem sh_i {k : Nat} (hk : k < 32) : ((Int32.ofNat k &&& 31).toBitVec.smod 32).toNat = k := by
  have : ∀ k : Nat, k < 32 → ((Int32.ofNat k &&& 31).toBitVec.smod 32).toNat = k := by decide +kernel
  exact this k hk
theorem mb_bit (x : Int32) {k : Nat} (hk : k < 32) : mb x k = x.toBitVec.getLsbD k := by
  have e : ((x >>> (Int32.ofNat k &&& 31)) &&& 1 = 1) = (x.toBitVec.getLsbD k = true) := by
    rw [← Int32.toBitVec_inj]
    have h1 : (x >>> (Int32.ofNat k &&& 31)).toBitVec = x.toBitVec.sshiftRight k := by
      show x.toBitVec.sshiftRight ((Int32.ofNat k &&& 31).toBitVec.smod 32).toNat = _
      rw [sh_i hk]
    rw [Int32.toBitVec_and, h1]
    show (x.toBitVec.sshiftRight k &&& 1#32 = 1#32) = _
    rw [propext (bv32_1 _), BitVec.getLsbD_sshiftRight]
    simp [hk]
  unfold mb
  rw [Bool.eq_iff_iff, decide_eq_true_eq, e]
theorem mb_N {S k : Nat} (hk : k < 32) : mb (Int32.ofNat S) k = S.testBit k := by
  rw [mb_bit _ hk]
  show (BitVec.ofNat 32 S).getLsbD k = S.testBit k
  rw [BitVec.getLsbD_ofNat, decide_eq_true hk, Bool.true_and]
def rwN (f : Nat → Nat) (S : Nat) : Nat → Nat → Nat
  | 0, _ => 0
  | q + 1, cl => (if S.testBit cl = true then f cl else 0) + rwN f S q (cl + 1)
theorem rwN_s (f : Nat → Nat) (S q cl : Nat) : rwN f S (q + 1) cl = (if S.testBit cl = true then f cl else 0) + rwN f S q (cl + 1) := (rfl)
theorem rwN_le {f : Nat → Nat} {S : Nat} (hf : ∀ cl : Nat, f cl ≤ 60) : ∀ q cl : Nat, rwN f S q cl ≤ q * 60
  | 0, _ => Nat.zero_le _
  | q + 1, cl => by
    have := rwN_le (S := S) hf q (cl + 1)
    have h2 := hf cl
    rw [rwN_s, Nat.add_mul]
    by_cases g : S.testBit cl = true
    · rw [if_pos g]; omega
    · rw [if_neg g]; omega
theorem rwN_z {f : Nat → Nat} {S : Nat} : ∀ q cl : Nat, S < 2 ^ cl → rwN f S q cl = 0
  | 0, _, _ => rfl
  | q + 1, cl, h => by
    have h2 : S < 2 ^ (cl + 1) := Nat.lt_of_lt_of_le h (Nat.pow_le_pow_right (by omega) (by omega))
    rw [rwN_s, if_neg (by rw [Nat.testBit_lt_two_pow h]; decide), rwN_z q (cl + 1) h2]
theorem rwN_cut {f : Nat → Nat} {S n : Nat} (hS : S < 2 ^ n) : ∀ q t cl : Nat, cl + q = n → rwN f S (q + t) cl = rwN f S q cl
  | 0, t, cl, h => by
    have : cl = n := by omega
    subst this
    rw [Nat.zero_add, rwN_z t cl hS]; rfl
  | q + 1, t, cl, h => by
    rw [show q + 1 + t = (q + t) + 1 by omega, rwN_s, rwN_s, rwN_cut hS q t (cl + 1) (by omega)]
def bcE (x : Int32) : Int32 :=
  let y1 := x - ((x.toUInt32 >>> ((1 : Int32).toUInt32 &&& Int32.toUInt32 31)).toInt32 &&& 1431655765)
  let y2 := (y1 &&& 858993459) + ((y1.toUInt32 >>> ((2 : Int32).toUInt32 &&& Int32.toUInt32 31)).toInt32 &&& 858993459)
  let y3 := (y2 + (y2.toUInt32 >>> ((4 : Int32).toUInt32 &&& Int32.toUInt32 31)).toInt32) &&& 252645135
  let y4 := y3 + (y3.toUInt32 >>> ((8 : Int32).toUInt32 &&& Int32.toUInt32 31)).toInt32
  let y5 := y4 + (y4.toUInt32 >>> ((16 : Int32).toUInt32 &&& Int32.toUInt32 31)).toInt32
  y5 &&& 63
theorem bcE_all2 : ∀ a : Nat, a < 64 → ∀ b : Nat, b < 64 → bcE (Int32.ofNat (64 * a + b)) = Int32.ofNat (sumB 12 (64 * a + b)) := by decide +kernel
theorem bcE_all (S : Nat) (hS : S < 4096) : bcE (Int32.ofNat S) = Int32.ofNat (sumB 12 S) := by
  have := bcE_all2 (S / 64) (by omega) (S % 64) (by omega)
  rw [Nat.div_add_mod] at this
  exact this
theorem j_bc (h : MHp) {S : Nat} (hS : S < 4096) : mJ6_bitCount_0f7a4 h (Int32.ofNat S) = some (Int32.ofNat (sumB 12 S)) := by
  rw [← bcE_all S hS]
  unfold mJ6_bitCount_0f7a4 bcE
  rw [o_bind, o_bind, o_bind, o_bind, o_bind]
theorem low_all2 : ∀ a : Nat, a < 64 → ∀ b : Nat, b < 64 → 64 * a + b ≠ 0 → (Int32.ofNat (64 * a + b) &&& (Int32.ofNat (64 * a + b) - 1)) = Int32.ofNat ((64 * a + b) &&& ((64 * a + b) - 1)) ∧ ((64 * a + b) &&& ((64 * a + b) - 1)) < 64 * a + b ∧ sumB 12 (64 * a + b) = sumB 12 ((64 * a + b) &&& ((64 * a + b) - 1)) + 1 := by decide +kernel
theorem low_all (S : Nat) (hS : S < 4096) (h0 : S ≠ 0) : (Int32.ofNat S &&& (Int32.ofNat S - 1)) = Int32.ofNat (S &&& (S - 1)) ∧ (S &&& (S - 1)) < S ∧ sumB 12 S = sumB 12 (S &&& (S - 1)) + 1 := by
  have := low_all2 (S / 64) (by omega) (S % 64) (by omega)
  rw [Nat.div_add_mod] at this
  exact this h0
theorem q_bitsl (h : MHp) : ∀ (B S a fu : Nat), S ≤ B → S < 4096 → B < fu → mX16_bits_l4 h fu (Int32.ofNat a) (Int32.ofNat S) = some (Int32.ofNat (a + sumB 12 S)) := by
  intro B
  induction B with
  | zero =>
    intro S a fu hB hS hf
    obtain ⟨fu, rfl⟩ : ∃ g : Nat, fu = g + 1 := ⟨fu - 1, by omega⟩
    have : S = 0 := by omega
    subst this
    rw [mX16_bits_l4, if_pos (show Int32.ofNat 0 = 0 from rfl)]; rfl
  | succ B ih =>
    intro S a fu hB hS hf
    obtain ⟨fu, rfl⟩ : ∃ g : Nat, fu = g + 1 := ⟨fu - 1, by omega⟩
    by_cases z : S = 0
    · subst z
      rw [mX16_bits_l4, if_pos (show Int32.ofNat 0 = 0 from rfl)]; rfl
    · obtain ⟨l1, l2, l3⟩ := low_all S hS z
      have z2 : ¬ Int32.ofNat S = 0 := by rw [show (0 : Int32) = Int32.ofNat 0 from rfl, eq_of (by omega) (by omega)]; exact z
      rw [mX16_bits_l4, if_neg z2, l1, s1_of, ih (S &&& (S - 1)) (a + 1) fu (by omega) (by omega) (by omega), l3]
      congr 2
      omega
theorem q_bitsN (h : MHp) {S : Nat} (hS : S < 4096) : mX16_bits h (Int32.ofNat S) = some (Int32.ofNat (sumB 12 S)) := by
  have := q_bitsl h 4095 S 0 FUEL (by omega) hS (by unfold FUEL; omega)
  rw [Nat.zero_add] at this
  exact this
theorem sumB_le : ∀ n x : Nat, sumB n x ≤ n
  | 0, _ => Nat.le_refl _
  | n + 1, x => by
    have := sumB_le n (x / 2)
    rw [sumB_s]; omega
theorem dif_N {a b : Nat} (ha : a < 1000000) (hb : b < 1000000) : (Int32.ofNat a - Int32.ofNat b = 0) = (a = b) ∧ (Int32.ofNat a - Int32.ofNat b < 0) = (a < b) ∧ (0 ≤ Int32.ofNat a - Int32.ofNat b) = (b ≤ a) := by
  have e : Int32.ofNat a - Int32.ofNat b = Int32.ofInt ((a : Int) - (b : Int)) := by
    rw [Int32.sub_eq_add_neg, ← oI_n a, ← oI_n b, Int32.neg_ofInt, ← Int32.ofInt_add]; rfl
  have t : (Int32.ofInt ((a : Int) - (b : Int))).toInt = (a : Int) - (b : Int) := Int32.toInt_ofInt_of_le (by omega) (by omega)
  have z : (0 : Int32).toInt = 0 := rfl
  rw [e, ← Int32.toInt_inj, Int32.lt_iff_toInt_lt, Int32.le_iff_toInt_le, t, z]
  exact ⟨propext ⟨fun h => by omega, fun h => by omega⟩, propext ⟨fun h => by omega, fun h => by omega⟩, propext ⟨fun h => by omega, fun h => by omega⟩⟩
/-- better than -/
def kR (A : AS) (k S : Nat) : Nat := rwN (fun cl => ctN (cnQ A k cl) (aN A 2) 0) S (vs (aB A) (pI1 (aP A k)) * vs (aB A) (pI2 (aP A k))) 0
def klt (A : AS) (k S T : Nat) : Prop := kR A k S < kR A k T ∨ kR A k S = kR A k T ∧ (sumB 12 S < sumB 12 T ∨ sumB 12 S = sumB 12 T ∧ S < T)
theorem kR_le {A : AS} (W : WA A) (k S : Nat) : kR A k S ≤ (vs (aB A) (pI1 (aP A k)) * vs (aB A) (pI2 (aP A k))) * 60 := by
  have h60 := W.2.2.2.1
  exact rwN_le (fun cl => by have := ctN_le (cnQ A k cl) (aN A 2) 0; omega) _ _
theorem c_rwl {c k S : Nat} {h : MHp} {A : AS} (L : CL c h) (hS : S < 4096) (hc : ∀ cl : Nat, cl < 100 → hAI h (c + 201) cl = cnC A k cl) : ∀ (q cl fu a : Nat), cl + q = 12 → q < fu → mX3_rowsIn_l4 h fu (c + 200) (Int32.ofNat S) (Int32.ofNat a) (Int32.ofNat cl) = some (Int32.ofNat (a + rwN (fun cl => ctN (cnQ A k cl) (aN A 2) 0) S q cl)) := by
  intro q
  have K := lK200 L
  induction q with
  | zero =>
    intro cl fu a hq hf
    obtain ⟨fu, rfl⟩ : ∃ g : Nat, fu = g + 1 := ⟨fu - 1, by omega⟩
    rw [mX3_rowsIn_l4, if_pos (by rw [show (12 : Int32) = Int32.ofNat 12 from rfl, le_of (by omega) (by omega)]; omega)]; rfl
  | succ q ih =>
    intro cl fu a hq hf
    obtain ⟨fu, rfl⟩ : ∃ g : Nat, fu = g + 1 := ⟨fu - 1, by omega⟩
    have bw := bad_n (k := cl) (n := 100) (by omega) (by omega)
    have clw : (Int32.ofNat cl).toNatClampNeg = cl := cl_of (by omega)
    have p64 : S < 2 ^ 64 := Nat.lt_of_lt_of_le hS (by decide)
    rw [mX3_rowsIn_l4, if_neg (by rw [show (12 : Int32) = Int32.ofNat 12 from rfl, le_of (by omega) (by omega)]; omega), l_i (by omega), p_left _ (by omega), o_bind, bL_N p64, rwN_s]
    by_cases g : S.testBit cl = true
    · rw [if_pos g, if_neg n10, if_pos g, b_gR, if_pos K, lR200_1 L, b_gAI, if_pos (lK201 L), lN201 L, if_neg bw, clw, hc cl (by omega), cnC_I, cnI, oI_n, mX3_rowsIn_b28, s1_of, ← Int32.ofNat_add, ih (cl + 1) fu _ (by omega) (by omega), Nat.add_assoc]
    · rw [if_neg g, if_pos rfl, if_neg g, mX3_rowsIn_b28, s1_of, ih (cl + 1) fu _ (by omega) (by omega), Nat.zero_add]
theorem p_rowsIn {c k S : Nat} {h : MHp} {A : AS} (L : CL c h) (hn : vs (aB A) (pI1 (aP A k)) * vs (aB A) (pI2 (aP A k)) ≤ 12) (hS : S < 2 ^ (vs (aB A) (pI1 (aP A k)) * vs (aB A) (pI2 (aP A k)))) (hc : ∀ cl : Nat, cl < 100 → hAI h (c + 201) cl = cnC A k cl) : mX3_rowsIn h (c + 200) (Int32.ofNat S) = some (Int32.ofNat (kR A k S)) := by
  have h12 : S < 4096 := Nat.lt_of_lt_of_le hS (Nat.pow_le_pow_right (show 0 < 2 by omega) hn)
  have e := c_rwl L h12 hc 12 0 FUEL 0 (by omega) (by unfold FUEL; omega)
  have cut := rwN_cut (f := fun cl => ctN (cnQ A k cl) (aN A 2) 0) hS (vs (aB A) (pI1 (aP A k)) * vs (aB A) (pI2 (aP A k))) (12 - vs (aB A) (pI1 (aP A k)) * vs (aB A) (pI2 (aP A k))) 0 (by omega)
  rw [show vs (aB A) (pI1 (aP A k)) * vs (aB A) (pI2 (aP A k)) + (12 - vs (aB A) (pI1 (aP A k)) * vs (aB A) (pI2 (aP A k))) = 12 by omega] at cut
  rw [Nat.zero_add, cut] at e
  exact e
theorem p_isLess {c k S T : Nat} {h : MHp} {A : AS} (W : WA A) (L : CL c h) (hn : vs (aB A) (pI1 (aP A k)) * vs (aB A) (pI2 (aP A k)) ≤ 12) (hS : S < 2 ^ (vs (aB A) (pI1 (aP A k)) * vs (aB A) (pI2 (aP A k)))) (hT : T < 2 ^ (vs (aB A) (pI1 (aP A k)) * vs (aB A) (pI2 (aP A k)))) (hc : ∀ cl : Nat, cl < 100 → hAI h (c + 201) cl = cnC A k cl) : ∃ r : Int32, mX3_isLess h (c + 200) (Int32.ofNat S) (Int32.ofNat T) = some r ∧ (r = 0 ∧ ¬ klt A k S T ∨ r = 1 ∧ klt A k S T) := by
  have p12 : 2 ^ (vs (aB A) (pI1 (aP A k)) * vs (aB A) (pI2 (aP A k))) ≤ 4096 := Nat.pow_le_pow_right (show 0 < 2 by omega) hn
  have K := lK200 L
  have r1 := kR_le W k S
  have r2 := kR_le W k T
  have b1 := sumB_le 12 S
  have b2 := sumB_le 12 T
  have m1 : vs (aB A) (pI1 (aP A k)) * vs (aB A) (pI2 (aP A k)) * 60 ≤ 12 * 60 := Nat.mul_le_mul_right 60 hn
  obtain ⟨d1, d2, d3⟩ := dif_N (a := kR A k S) (b := kR A k T) (by omega) (by omega)
  obtain ⟨f1, f2, f3⟩ := dif_N (a := sumB 12 S) (b := sumB 12 T) (by omega) (by omega)
  unfold klt
  rw [mX3_isLess, b_rcv, if_pos K, p_rowsIn L hn hS hc, o_bind, b_rcv, if_pos K, p_rowsIn L hn hT hc, o_bind]
  by_cases g : kR A k S = kR A k T
  · rw [if_pos (by rw [d1]; exact g), j_bc h (by omega), o_bind, j_bc h (by omega), o_bind]
    by_cases g2 : sumB 12 S < sumB 12 T
    · exact ⟨1, by rw [if_pos (by rw [f2]; exact g2)], Or.inr ⟨rfl, by omega⟩⟩
    · rw [if_neg (by rw [f2]; exact g2)]
      by_cases g3 : sumB 12 S = sumB 12 T
      · rw [if_pos (by rw [f1]; exact g3)]
        have e : (Int32.ofNat T ≤ Int32.ofNat S) = (T ≤ S) := le_of (by omega) (by omega)
        by_cases g4 : T ≤ S
        · exact ⟨0, by rw [if_pos (by rw [e]; exact g4)], Or.inl ⟨rfl, by omega⟩⟩
        · exact ⟨1, by rw [if_neg (by rw [e]; exact g4)], Or.inr ⟨rfl, by omega⟩⟩
      · exact ⟨0, by rw [if_neg (by rw [f1]; exact g3)], Or.inl ⟨rfl, by omega⟩⟩
  · rw [if_neg (by rw [d1]; exact g)]
    by_cases g2 : kR A k T ≤ kR A k S
    · exact ⟨0, by rw [if_pos (by rw [d3]; exact g2)], Or.inl ⟨rfl, by omega⟩⟩
    · exact ⟨1, by rw [if_neg (by rw [d3]; exact g2)], Or.inr ⟨rfl, by omega⟩⟩
theorem wd_sub {A : AS} {k : Nat} {out : Int64} (hw : wdA A k out = true) (n60 : vs (aB A) (pI1 (aP A k)) * vs (aB A) (pI2 (aP A k)) ≤ 60) : ∀ j : Nat, bL (msL (shQ A k) (vs (aB A) (pI1 (aP A k)) * vs (aB A) (pI2 (aP A k))) 0 0) j = true → bL out j = true := by
  intro j hj
  unfold wdA at hw
  rw [allF_iff] at hw
  have eb := bL_msL (shQ A k) (vs (aB A) (pI1 (aP A k)) * vs (aB A) (pI2 (aP A k))) 0 0 j (by omega)
  rw [bL_0, Bool.false_or, hj] at eb
  have eb2 := eb.symm
  rw [Bool.and_eq_true, decide_eq_true_eq] at eb2
  have := hw j eb2.1.1 eb2.1.2
  unfold wdQ at this
  rw [eb2.2] at this
  simp at this
  exact this.1
def wN (A : AS) (k S : Nat) : Prop := wdA A k (Int64.ofNat S) = true
/-- the class's choice: a set b below 2 ^ n that is wide and that no wide set is better than -/
def LsOk (A : AS) (k b : Nat) : Prop := b < 2 ^ (vs (aB A) (pI1 (aP A k)) * vs (aB A) (pI2 (aP A k))) ∧ wN A k b ∧ ∀ T : Nat, T < 2 ^ (vs (aB A) (pI1 (aP A k)) * vs (aB A) (pI2 (aP A k))) → wN A k T → ¬ klt A k T b
theorem LsOk.un {A : AS} {k b b' : Nat} (h : LsOk A k b) (h' : LsOk A k b') : b = b' := by
  have h1 := h.2.2 b' h'.1 h'.2.1
  have h2 := h'.2.2 b h.1 h.2.1
  unfold klt at h1 h2
  omega
theorem sl_N {n : Nat} (hn : n ≤ 12) : (1 : Int32) <<< (Int32.ofNat n &&& 31) = Int32.ofNat (2 ^ n) := by
  have : ∀ n : Nat, n < 13 → (1 : Int32) <<< (Int32.ofNat n &&& 31) = Int32.ofNat (2 ^ n) := by decide +kernel
  exact this n (by omega)
theorem c_lsl {c k : Nat} {A : AS} (W : WA A) (hk : k < aN A 1) (hn : vs (aB A) (pI1 (aP A k)) * vs (aB A) (pI2 (aP A k)) ≤ 12) : ∀ (q s b fu : Nat) (h : MHp), Gc c (vs (aB A) (pI1 (aP A k))) (vs (aB A) (pI2 (aP A k))) h → (∀ cl : Nat, cl < 100 → hAI h (c + 201) cl = cnC A k cl) → b < 2 ^ (vs (aB A) (pI1 (aP A k)) * vs (aB A) (pI2 (aP A k))) → wN A k b → (∀ T : Nat, T < s → wN A k T → ¬ klt A k T b) → s + q = 2 ^ (vs (aB A) (pI1 (aP A k)) * vs (aB A) (pI2 (aP A k))) → q < fu → ∃ (h' : MHp) (b' : Nat), mX3_leastSet_l42 fu h (c + 200) (msL (shQ A k) (vs (aB A) (pI1 (aP A k)) * vs (aB A) (pI2 (aP A k))) 0 0) (aS A 7) (Int32.ofNat (vs (aB A) (pI1 (aP A k)) * vs (aB A) (pI2 (aP A k)))) (Int32.ofNat b) (Int32.ofNat s) = some (Int32.ofNat b', h') ∧ Gq c h h' ∧ LsOk A k b' := by
  intro q
  have p12 : 2 ^ (vs (aB A) (pI1 (aP A k)) * vs (aB A) (pI2 (aP A k))) ≤ 4096 := Nat.pow_le_pow_right (show 0 < 2 by omega) hn
  induction q with
  | zero =>
    intro s b fu h G hc hb wb hT hs hf
    obtain ⟨fu, rfl⟩ : ∃ g : Nat, fu = g + 1 := ⟨fu - 1, by omega⟩
    refine ⟨h, b, ?_, ⟨Sc.rf, rfl, rfl⟩, hb, wb, fun T hT2 => hT T (by omega)⟩
    rw [mX3_leastSet_l42]
    by_cases e : (4096 : Int32) ≤ Int32.ofNat s
    · rw [if_pos e]
    · rw [if_neg e, sl_N hn, if_pos (by rw [le_of (by omega) (by omega)]; omega)]
  | succ q ih =>
    intro s b fu h G hc hb wb hT hs hf
    obtain ⟨fu, rfl⟩ : ∃ g : Nat, fu = g + 1 := ⟨fu - 1, by omega⟩
    obtain ⟨L, g1, g2, g3, g4, g5⟩ := id G
    have K := lK200 L
    have c1 : ¬ (4096 : Int32) ≤ Int32.ofNat s := by rw [show (4096 : Int32) = Int32.ofNat 4096 from rfl, le_of (by omega) (by omega)]; omega
    have c2 : ¬ Int32.ofNat (2 ^ (vs (aB A) (pI1 (aP A k)) * vs (aB A) (pI2 (aP A k)))) ≤ Int32.ofNat s := by rw [le_of (by omega) (by omega)]; omega
    have hx : ∀ cl : Nat, cl < vs (aB A) (pI1 (aP A k)) * vs (aB A) (pI2 (aP A k)) → hAI h (c + 201) cl = Int32.ofInt (cnI A k cl) ∧ 0 ≤ cnI A k cl := fun cl hcl => ⟨by rw [hc cl (by omega), cnC_I], cnI_0 A k cl⟩
    have ex : (Int32.ofNat s ^^^ (-1)).toInt64 = (Int32.ofNat s).toInt64 ^^^ (-1) := by rw [Int32.toInt64_xor]; rfl
    have sb : (lg_cmp (msL (shQ A k) (vs (aB A) (pI1 (aP A k)) * vs (aB A) (pI2 (aP A k))) 0 0 &&& (Int32.ofNat s ^^^ (-1)).toInt64) 0 = 0) = ∀ j : Nat, bL (msL (shQ A k) (vs (aB A) (pI1 (aP A k)) * vs (aB A) (pI2 (aP A k))) 0 0) j = true → bL (Int64.ofNat s) j = true := by
      rw [ex, l_i (by omega), shy_sub]
    -- going on with the same set
    have keep : ∀ h' : MHp, Gq c h h' → (wN A k s → ¬ klt A k s b) → mX3_leastSet_l42 (fu + 1) h (c + 200) (msL (shQ A k) (vs (aB A) (pI1 (aP A k)) * vs (aB A) (pI2 (aP A k))) 0 0) (aS A 7) (Int32.ofNat (vs (aB A) (pI1 (aP A k)) * vs (aB A) (pI2 (aP A k)))) (Int32.ofNat b) (Int32.ofNat s) = mX3_leastSet_l42 fu h' (c + 200) (msL (shQ A k) (vs (aB A) (pI1 (aP A k)) * vs (aB A) (pI2 (aP A k))) 0 0) (aS A 7) (Int32.ofNat (vs (aB A) (pI1 (aP A k)) * vs (aB A) (pI2 (aP A k)))) (Int32.ofNat b) (Int32.ofNat (s + 1)) → ∃ (h' : MHp) (b' : Nat), mX3_leastSet_l42 (fu + 1) h (c + 200) (msL (shQ A k) (vs (aB A) (pI1 (aP A k)) * vs (aB A) (pI2 (aP A k))) 0 0) (aS A 7) (Int32.ofNat (vs (aB A) (pI1 (aP A k)) * vs (aB A) (pI2 (aP A k)))) (Int32.ofNat b) (Int32.ofNat s) = some (Int32.ofNat b', h') ∧ Gq c h h' ∧ LsOk A k b' := by
      intro h' S' hns e0
      obtain ⟨h2, b2, e2, S2, l2⟩ := ih (s + 1) b fu h' (G.sc S'.1 S'.2.1) (fun cl hcl => by rw [S'.2.2]; exact hc cl hcl) hb wb (fun T hT2 hw => by
        by_cases e : T = s
        · subst e; exact hns hw
        · exact hT T (by omega) hw) (by omega) (by omega)
      exact ⟨h2, b2, by rw [e0, e2], S'.tr S2, l2⟩
    by_cases su : ∀ j : Nat, bL (msL (shQ A k) (vs (aB A) (pI1 (aP A k)) * vs (aB A) (pI2 (aP A k))) 0 0) j = true → bL (Int64.ofNat s) j = true
    · obtain ⟨r, e1, er⟩ := p_isLess (S := s) (T := b) W L hn (by omega) hb hc
      rcases er with ⟨rfl, nl⟩ | ⟨rfl, yl⟩
      · refine keep h ⟨Sc.rf, rfl, rfl⟩ (fun _ => nl) ?_
        rw [mX3_leastSet_l42, if_neg c1, sl_N hn, if_neg c2, if_pos (by rw [sb]; exact su), b_rcv, if_pos K, e1, o_bind, if_pos rfl, mX3_leastSet_b98, s1_of]
      · obtain ⟨h1, e2, S1⟩ := p_isWide (out := Int64.ofNat s) W hk G hx
        by_cases w : wdA A k (Int64.ofNat s) = true
        · rw [if_pos w] at e2
          obtain ⟨h2, b2, e3, S2, l2⟩ := ih (s + 1) s fu h1 (G.sc S1.1 S1.2.1) (fun cl hcl => by rw [S1.2.2]; exact hc cl hcl) (by omega) w (fun T hT2 hw => by
            by_cases e : T = s
            · subst e; unfold klt; omega
            · have := hT T (by omega) hw
              unfold klt at this yl ⊢
              omega) (by omega) (by omega)
          refine ⟨h2, b2, ?_, S1.tr S2, l2⟩
          rw [mX3_leastSet_l42, if_neg c1, sl_N hn, if_neg c2, if_pos (by rw [sb]; exact su), b_rcv, if_pos K, e1, o_bind, if_neg n10, b_rcv, if_pos K, l_i (by omega), e2, o_bind, if_neg n10, mX3_leastSet_b98, s1_of, e3]
        · rw [if_neg w] at e2
          refine keep h1 S1 (fun hw => absurd hw w) ?_
          rw [mX3_leastSet_l42, if_neg c1, sl_N hn, if_neg c2, if_pos (by rw [sb]; exact su), b_rcv, if_pos K, e1, o_bind, if_neg n10, b_rcv, if_pos K, l_i (by omega), e2, o_bind, if_pos rfl, mX3_leastSet_b98, s1_of]
    · refine keep h ⟨Sc.rf, rfl, rfl⟩ (fun hw => absurd (wd_sub hw (by omega)) su) ?_
      rw [mX3_leastSet_l42, if_neg c1, sl_N hn, if_neg c2, if_neg (by rw [sb]; exact su), mX3_leastSet_b98, s1_of]
/-- what the whole table can't hide, nothing can -/
theorem wd_full {c k S : Nat} {h : MHp} {A : AS} (W : WA A) (hk : k < aN A 1) (hn : vs (aB A) (pI1 (aP A k)) * vs (aB A) (pI2 (aP A k)) ≤ 12) (G : Gc c (vs (aB A) (pI1 (aP A k))) (vs (aB A) (pI2 (aP A k))) h) (hx : ∀ cl : Nat, cl < vs (aB A) (pI1 (aP A k)) * vs (aB A) (pI2 (aP A k)) → hAI h (c + 201) cl = Int32.ofInt (cnI A k cl) ∧ 0 ≤ cnI A k cl) (hS : S < 2 ^ (vs (aB A) (pI1 (aP A k)) * vs (aB A) (pI2 (aP A k)))) (hw : wN A k S) : wN A k (2 ^ (vs (aB A) (pI1 (aP A k)) * vs (aB A) (pI2 (aP A k))) - 1) := by
  have p12 : 2 ^ (vs (aB A) (pI1 (aP A k)) * vs (aB A) (pI2 (aP A k))) ≤ 4096 := Nat.pow_le_pow_right (show 0 < 2 by omega) hn
  have hs := cnI_60 W hk
  have g4 := G.2.2.2.2.1
  have p64 : (4096 : Nat) < 2 ^ 64 := by decide
  have fullb : ∀ cl : Nat, cl < vs (aB A) (pI1 (aP A k)) * vs (aB A) (pI2 (aP A k)) → bL (Int64.ofNat (2 ^ (vs (aB A) (pI1 (aP A k)) * vs (aB A) (pI2 (aP A k))) - 1)) cl = true := fun cl hcl => by
    rw [bL_N (by omega), Nat.testBit_two_pow_sub_one]
    exact decide_eq_true hcl
  unfold wN wdA at hw ⊢
  rw [allF_iff] at hw ⊢
  intro cl h1 h2
  have hcl : cl < vs (aB A) (pI1 (aP A k)) * vs (aB A) (pI2 (aP A k)) := by omega
  have w1 := hw cl h1 h2
  unfold wdQ at w1 ⊢
  cases hsh : shQ A k cl with
  | false => rfl
  | true =>
    rw [hsh] at w1
    rw [fullb cl hcl]
    rw [Bool.not_true, Bool.false_or, Bool.and_eq_true, decide_eq_true_eq] at w1
    rw [Bool.not_true, Bool.false_or, Bool.true_and, decide_eq_true_eq]
    obtain ⟨o1, w2⟩ := w1
    obtain ⟨i, j, hi, hj, ecl⟩ := cell_ij g4.1 hcl
    rw [ecl] at o1 w2 ⊢
    have of := fullb (i * vs (aB A) (pI2 (aP A k)) + j) (by rw [← ecl]; exact hcl)
    obtain ⟨-, v1, -, -, B1⟩ := p_edgeOf (out := Int64.ofNat S) true G hi hj hx hs o1
    obtain ⟨-, v2, -, -, B2⟩ := p_edgeOf (out := Int64.ofNat S) false G hi hj hx hs o1
    obtain ⟨-, v3, -, -, B3⟩ := p_edgeOf (out := Int64.ofNat (2 ^ (vs (aB A) (pI1 (aP A k)) * vs (aB A) (pI2 (aP A k))) - 1)) true G hi hj hx hs of
    obtain ⟨-, v4, -, -, B4⟩ := p_edgeOf (out := Int64.ofNat (2 ^ (vs (aB A) (pI1 (aP A k)) * vs (aB A) (pI2 (aP A k))) - 1)) false G hi hj hx hs of
    rw [← bV_eq B1, ← bV_eq B2] at w2
    rw [← bV_eq B3, ← bV_eq B4]
    have up : ∀ z : Nat → Int, Fs (vs (aB A) (pI1 (aP A k))) (vs (aB A) (pI2 (aP A k))) (bL (Int64.ofNat S)) (cnI A k) z → Fs (vs (aB A) (pI1 (aP A k))) (vs (aB A) (pI2 (aP A k))) (bL (Int64.ofNat (2 ^ (vs (aB A) (pI1 (aP A k)) * vs (aB A) (pI2 (aP A k))) - 1))) (cnI A k) z := fun z hz => ⟨hz.1, (fun x hx' ho => by rw [fullb x hx'] at ho; cases ho), hz.2.2⟩
    have hc := cell_lt hi hj
    obtain ⟨y1, F1, rfl, m1, -⟩ := B1
    obtain ⟨y2, F2, rfl, -, m2⟩ := B2
    obtain ⟨y3, F3, rfl, m3, -⟩ := B3
    obtain ⟨y4, F4, rfl, -, m4⟩ := B4
    have a1 := m3 rfl y1 (up y1 F1)
    have a2 := m4 rfl y2 (up y2 F2)
    have b1 := Fs_60 hs F1 _ hc
    have b2 := Fs_60 hs F2 _ hc
    have b3 := Fs_60 hs F3 _ hc
    have b4 := Fs_60 hs F4 _ hc
    have c1 := F1.1 _ hc
    have c2 := F2.1 _ hc
    have c3 := F3.1 _ hc
    have c4 := F4.1 _ hc
    have e : ∀ x z : Int, Int32.ofInt x - Int32.ofInt z = Int32.ofInt (x - z) := fun x z => by
      rw [Int32.sub_eq_add_neg, Int32.neg_ofInt, ← Int32.ofInt_add]; rfl
    rw [e, Int32.le_iff_toInt_le, Int32.toInt_ofInt_of_le (by omega) (by omega)] at w2
    rw [e, Int32.le_iff_toInt_le, Int32.toInt_ofInt_of_le (by omega) (by omega)]
    omega
theorem p_leastSet {c k : Nat} {h : MHp} {A : AS} (W : WA A) (hk : k < aN A 1) (hn : vs (aB A) (pI1 (aP A k)) * vs (aB A) (pI2 (aP A k)) ≤ 12) (G : Gc c (vs (aB A) (pI1 (aP A k))) (vs (aB A) (pI2 (aP A k))) h) (hc : ∀ cl : Nat, cl < 100 → hAI h (c + 201) cl = cnC A k cl) : ∃ (h' : MHp) (r : Int32), mX3_leastSet h (c + 200) (msL (shQ A k) (vs (aB A) (pI1 (aP A k)) * vs (aB A) (pI2 (aP A k))) 0 0) (aS A 7) = some (r, h') ∧ Gq c h h' ∧ ((∃ b : Nat, r = Int32.ofNat b ∧ LsOk A k b) ∨ r = -2 ∧ ∀ T : Nat, T < 2 ^ (vs (aB A) (pI1 (aP A k)) * vs (aB A) (pI2 (aP A k))) → ¬ wN A k T) := by
  obtain ⟨L, g1, g2, g3, g4, g5⟩ := id G
  have K := lK200 L
  have p12 : 2 ^ (vs (aB A) (pI1 (aP A k)) * vs (aB A) (pI2 (aP A k))) ≤ 4096 := Nat.pow_le_pow_right (show 0 < 2 by omega) hn
  have p1 : 1 ≤ 2 ^ (vs (aB A) (pI1 (aP A k)) * vs (aB A) (pI2 (aP A k))) := Nat.one_le_two_pow
  have hx : ∀ cl : Nat, cl < vs (aB A) (pI1 (aP A k)) * vs (aB A) (pI2 (aP A k)) → hAI h (c + 201) cl = Int32.ofInt (cnI A k cl) ∧ 0 ≤ cnI A k cl := fun cl hcl => ⟨by rw [hc cl (by omega), cnC_I], cnI_0 A k cl⟩
  have mn : mJ9_min_7cf53 h (Int32.ofNat (vs (aB A) (pI1 (aP A k)) * vs (aB A) (pI2 (aP A k)))) 12 = some (Int32.ofNat (vs (aB A) (pI1 (aP A k)) * vs (aB A) (pI2 (aP A k)))) := by
    unfold mJ9_min_7cf53
    rw [if_neg]
    rw [show (12 : Int32) = Int32.ofNat 12 from rfl, lt_of (by omega) (by omega)]; omega
  have e1 : (1 : Int32) <<< (Int32.ofNat (vs (aB A) (pI1 (aP A k)) * vs (aB A) (pI2 (aP A k))) &&& 31) - 1 = Int32.ofNat (2 ^ (vs (aB A) (pI1 (aP A k)) * vs (aB A) (pI2 (aP A k))) - 1) := by
    rw [sl_N hn, Int32.ofNat_sub _ _ p1]; rfl
  obtain ⟨h1, e2, S1⟩ := p_isWide (out := Int64.ofNat (2 ^ (vs (aB A) (pI1 (aP A k)) * vs (aB A) (pI2 (aP A k))) - 1)) W hk G hx
  by_cases w : wdA A k (Int64.ofNat (2 ^ (vs (aB A) (pI1 (aP A k)) * vs (aB A) (pI2 (aP A k))) - 1)) = true
  · rw [if_pos w] at e2
    obtain ⟨h2, b, e3, S2, l2⟩ := c_lsl W hk hn (2 ^ (vs (aB A) (pI1 (aP A k)) * vs (aB A) (pI2 (aP A k)))) 0 (2 ^ (vs (aB A) (pI1 (aP A k)) * vs (aB A) (pI2 (aP A k))) - 1) FUEL h1 (G.sc S1.1 S1.2.1) (fun cl hcl => by rw [S1.2.2]; exact hc cl hcl) (by omega) w (fun T hT => by omega) (by omega) (by unfold FUEL; omega)
    have e3' : mX3_leastSet_l42 FUEL h1 (c + 200) (msL (shQ A k) (vs (aB A) (pI1 (aP A k)) * vs (aB A) (pI2 (aP A k))) 0 0) (aS A 7) (Int32.ofNat (vs (aB A) (pI1 (aP A k)) * vs (aB A) (pI2 (aP A k)))) (Int32.ofNat (2 ^ (vs (aB A) (pI1 (aP A k)) * vs (aB A) (pI2 (aP A k))) - 1)) 0 = _ := e3
    refine ⟨h2, Int32.ofNat b, ?_, S1.tr S2, Or.inl ⟨b, rfl, l2⟩⟩
    rw [mX3_leastSet, b_gI, if_pos K, g1, b_gI, if_pos K, g2, ← Int32.ofNat_mul, mn, o_bind, b_rcv, if_pos K, e1, l_i (by omega), e2, o_bind, if_neg n10, e3']
  · rw [if_neg w] at e2
    refine ⟨h1, -2, ?_, S1, Or.inr ⟨rfl, fun T hT hw => w (wd_full W hk hn G hx hT hw)⟩⟩
    rw [mX3_leastSet, b_gI, if_pos K, g1, b_gI, if_pos K, g2, ← Int32.ofNat_mul, mn, o_bind, b_rcv, if_pos K, e1, l_i (by omega), e2, o_bind, if_pos rfl]

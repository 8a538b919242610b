/-! how many bits a long has -/
def rm (b : Nat) : Nat → Nat
  | 0 => 0
  | n + 1 => 256 * rm b n + b
theorem rm_s (b n : Nat) : rm b (n + 1) = 256 * rm b n + b := (rfl)
theorem and_spl {q r M m : Nat} (hr : r < 256) (hm : m < 256) : (256 * q + r) &&& (256 * M + m) = 256 * (q &&& M) + (r &&& m) := by
  have h1 : ((256 * q + r) &&& (256 * M + m)) % 2 ^ 8 = r &&& m := by
    rw [Nat.and_mod_two_pow]
    congr 1
    · have : (2 : Nat) ^ 8 = 256 := rfl
      rw [this]; omega
    · have : (2 : Nat) ^ 8 = 256 := rfl
      rw [this]; omega
  have h2 : ((256 * q + r) &&& (256 * M + m)) / 2 ^ 8 = q &&& M := by
    rw [Nat.and_div_two_pow]
    congr 1
    · have : (2 : Nat) ^ 8 = 256 := rfl
      rw [this]; omega
    · have : (2 : Nat) ^ 8 = 256 := rfl
      rw [this]; omega
  have e : (2 : Nat) ^ 8 = 256 := rfl
  rw [e] at h1 h2
  have := Nat.div_add_mod ((256 * q + r) &&& (256 * M + m)) 256
  rw [h1, h2] at this
  exact this.symm
def w1 (n x : Nat) : Nat := x - (x / 2 &&& rm 85 n)
def w2 (n y : Nat) : Nat := (y &&& rm 51 n) + (y / 4 &&& rm 51 n)
def w3 (n z : Nat) : Nat := (z + z / 16) &&& rm 15 n
def g1 (b : Nat) : Nat := b - (b / 2 &&& 85)
def g2 (b : Nat) : Nat := (b &&& 51) + (b / 4 &&& 51)
def pc8 (b : Nat) : Nat := b % 2 + (b / 2 % 2 + (b / 4 % 2 + (b / 8 % 2 + (b / 16 % 2 + (b / 32 % 2 + (b / 64 % 2 + b / 128 % 2))))))
theorem w1_s {n q b : Nat} (hb : b < 256) : w1 (n + 1) (256 * q + b) = 256 * w1 n q + g1 b := by
  have d : ∀ b : Nat, b < 256 → ∀ t : Nat, t < 2 → (128 * t + b / 2) &&& 85 = b / 2 &&& 85 := by decide +kernel
  have e : (256 * q + b) / 2 = 256 * (q / 2) + (128 * (q % 2) + b / 2) := by omega
  have l1 : q / 2 &&& rm 85 n ≤ q / 2 := Nat.and_le_left
  have l2 : b / 2 &&& 85 ≤ b / 2 := Nat.and_le_left
  unfold w1 g1
  rw [e, rm_s, and_spl (by omega) (by omega), d b hb (q % 2) (by omega)]
  omega
theorem w2_s {n u v : Nat} (hv : v < 256) : w2 (n + 1) (256 * u + v) = 256 * w2 n u + g2 v := by
  have d : ∀ b : Nat, b < 256 → ∀ t : Nat, t < 4 → (64 * t + b / 4) &&& 51 = b / 4 &&& 51 := by decide +kernel
  have e : (256 * u + v) / 4 = 256 * (u / 4) + (64 * (u % 4) + v / 4) := by omega
  unfold w2 g2
  rw [e, rm_s, and_spl (by omega) (by omega), and_spl (by omega) (by omega), d v hv (u % 4) (by omega)]
  omega
theorem g1_lt {b : Nat} (hb : b < 256) : g1 b < 256 := by unfold g1; omega
theorem g21 {b : Nat} (hb : b < 256) : g2 (g1 b) ≤ 68 ∧ g2 (g1 b) % 16 ≤ 4 ∧ g2 (g1 b) / 16 ≤ 4 := by
  have d : ∀ b : Nat, b < 256 → g2 (g1 b) ≤ 68 ∧ g2 (g1 b) % 16 ≤ 4 ∧ g2 (g1 b) / 16 ≤ 4 := by decide +kernel
  exact d b hb
theorem w21_16 (n x : Nat) : w2 n (w1 n x) % 16 ≤ 4 := by
  cases n with
  | zero =>
    have : w2 0 (w1 0 x) = 0 := by
      unfold w2
      show (w1 0 x &&& 0) + (w1 0 x / 4 &&& 0) = 0
      rw [Nat.and_zero, Nat.and_zero]
    rw [this]; omega
  | succ n =>
    have e : x = 256 * (x / 256) + x % 256 := (Nat.div_add_mod x 256).symm
    have hb : x % 256 < 256 := Nat.mod_lt _ (by omega)
    rw [e, w1_s hb, w2_s (g1_lt hb)]
    have := g21 hb
    omega
/-- the bytes' counts, a byte each -/
def w123 (n x : Nat) : Nat := w3 n (w2 n (w1 n x))
theorem w123_s {n q b : Nat} (hb : b < 256) : w123 (n + 1) (256 * q + b) = 256 * w123 n q + pc8 b := by
  have d : ∀ b : Nat, b < 256 → ∀ t : Nat, t < 5 → (g2 (g1 b) + g2 (g1 b) / 16 + 16 * t) &&& 15 = pc8 b := by decide +kernel
  have h1 := g21 hb
  have h2 := w21_16 n q
  unfold w123
  rw [w1_s hb, w2_s (g1_lt hb)]
  generalize w2 n (w1 n q) = u at h2 ⊢
  have e : 256 * u + g2 (g1 b) + (256 * u + g2 (g1 b)) / 16 = 256 * (u + u / 16) + (g2 (g1 b) + g2 (g1 b) / 16 + 16 * (u % 16)) := by omega
  unfold w3
  rw [e, rm_s, and_spl (by omega) (by omega), d b hb (u % 16) (by omega)]
theorem w123_0 (x : Nat) : w123 0 x = 0 := by
  unfold w123 w3
  show _ &&& 0 = 0
  exact Nat.and_zero _
def sumB : Nat → Nat → Nat
  | 0, _ => 0
  | n + 1, x => x % 2 + sumB n (x / 2)
theorem sumB_0 (x : Nat) : sumB 0 x = 0 := (rfl)
theorem sumB_s (n x : Nat) : sumB (n + 1) x = x % 2 + sumB n (x / 2) := (rfl)
theorem sumB_8 (n x : Nat) : sumB (n + 8) x = pc8 (x % 256) + sumB n (x / 256) := by
  rw [show n + 8 = n + 7 + 1 from rfl, sumB_s, show n + 7 = n + 6 + 1 from rfl, sumB_s, show n + 6 = n + 5 + 1 from rfl, sumB_s, show n + 5 = n + 4 + 1 from rfl, sumB_s, show n + 4 = n + 3 + 1 from rfl, sumB_s, show n + 3 = n + 2 + 1 from rfl, sumB_s, show n + 2 = n + 1 + 1 from rfl, sumB_s, sumB_s]
  have e : x / 2 / 2 / 2 / 2 / 2 / 2 / 2 / 2 = x / 256 := by omega
  rw [e]
  unfold pc8
  omega
theorem pc8_le (b : Nat) : pc8 b ≤ 8 := by unfold pc8; omega
def pA (x : Nat) : Nat := x + x / 256
def pB (x : Nat) : Nat := x + x / 65536
def pC (x : Nat) : Nat := x + x / 4294967296
theorem dv32 {E H : Nat} (h : E < 4294967296) : (E + 4294967296 * H) / 4294967296 = H := by omega
theorem dv16 {E H : Nat} (h : E < 65536) : (E + 65536 * H) / 65536 = H := by omega
theorem pm8 {x0 x1 x2 x3 x4 x5 x6 x7 c0 c1 c2 c3 c4 c5 c6 c7 a0 a1 a2 a3 a4 a5 a6 a7 : Nat} (h0 : x0 = c0 + 256 * a0) (h1 : x1 = c1 + 256 * a1) (h2 : x2 = c2 + 256 * a2) (h3 : x3 = c3 + 256 * a3) (h4 : x4 = c4 + 256 * a4) (h5 : x5 = c5 + 256 * a5) (h6 : x6 = c6 + 256 * a6) (h7 : x7 = c7 + 256 * a7) (l : c0 + c1 + c2 + c3 + c4 + c5 + c6 + c7 ≤ 64) : (x0 + x1 + (x2 + x3) + (x4 + x5 + (x6 + x7))) % 128 = c0 + c1 + c2 + c3 + c4 + c5 + c6 + c7 := by
  have e : x0 + x1 + (x2 + x3) + (x4 + x5 + (x6 + x7)) = (c0 + c1 + c2 + c3 + c4 + c5 + c6 + c7) + 128 * (2 * (a0 + a1 + a2 + a3 + a4 + a5 + a6 + a7)) := by omega
  rw [e, Nat.add_mul_mod_self_left]
  exact Nat.mod_eq_of_lt (by omega)
theorem pl2 {c0 c1 c2 R2 R3 : Nat} : c0 + 256 * (c1 + 256 * R2) + (c1 + 256 * (c2 + 256 * R3)) = (c0 + c1 + 256 * (c1 + c2)) + 65536 * (R2 + R3) := by omega
theorem pl4 {c0 c1 c2 c3 R4 : Nat} : c0 + 256 * (c1 + 256 * (c2 + 256 * (c3 + 256 * R4))) = (c0 + 256 * c1 + 65536 * c2 + 16777216 * c3) + 4294967296 * R4 := by omega
theorem pl44 {A B C D a b c d : Nat} : (A + 4294967296 * a) + (B + 4294967296 * b) + ((C + 4294967296 * c) + (D + 4294967296 * d)) = (A + B + (C + D)) + 4294967296 * (a + b + (c + d)) := by omega
theorem pop_a {c0 c1 c2 c3 c4 c5 c6 c7 R0 R1 R2 R3 R4 R5 R6 R7 : Nat} (l0 : c0 ≤ 8) (l1 : c1 ≤ 8) (l2 : c2 ≤ 8) (l3 : c3 ≤ 8) (l4 : c4 ≤ 8) (l5 : c5 ≤ 8) (l6 : c6 ≤ 8) (l7 : c7 ≤ 8) (r0 : R0 = c0 + 256 * R1) (r1 : R1 = c1 + 256 * R2) (r2 : R2 = c2 + 256 * R3) (r3 : R3 = c3 + 256 * R4) (r4 : R4 = c4 + 256 * R5) (r5 : R5 = c5 + 256 * R6) (r6 : R6 = c6 + 256 * R7) (r7 : R7 = c7) : R0 < 2 ^ 60 ∧ pC (pB (pA R0)) % 128 = c0 + c1 + c2 + c3 + c4 + c5 + c6 + c7 ∧ pC (pB (pA R0)) < 2 ^ 64 ∧ pB (pA R0) < 2 ^ 63 ∧ pA R0 < 2 ^ 62 := by
  have b7 : R7 ≤ 8 := by rw [r7]; exact l7
  have b6 : R6 ≤ 2056 := by clear r0 r1 r2 r3 r4 r5; omega
  have b5 : R5 ≤ 526344 := by clear r0 r1 r2 r3 r4 r6; omega
  have b4 : R4 ≤ 134744072 := by clear r0 r1 r2 r3 r5 r6; omega
  have b3 : R3 ≤ 34494482440 := by clear r0 r1 r2 r4 r5 r6; omega
  have b2 : R2 ≤ 8830587504648 := by clear r0 r1 r3 r4 r5 r6; omega
  have b1 : R1 ≤ 2260630401189896 := by clear r0 r2 r3 r4 r5 r6; omega
  have b0 : R0 ≤ 578721382704613384 := by clear r1 r2 r3 r4 r5 r6; omega
  have a1 : pA R0 = R0 + R1 := by
    have : R0 / 256 = R1 := by clear r1 r2 r3 r4 r5 r6; omega
    unfold pA; rw [this]
  have a2 : pB (R0 + R1) = R0 + R1 + (R2 + R3) := by
    have : (R0 + R1) / 65536 = R2 + R3 := by
      have e : R0 + R1 = (c0 + c1 + 256 * (c1 + c2)) + 65536 * (R2 + R3) := by
        exact (show R0 + R1 = c0 + 256 * (c1 + 256 * R2) + (c1 + 256 * (c2 + 256 * R3)) by rw [r0, r1, r2]).trans pl2
      rw [e]; exact dv16 (by omega)
    unfold pB; rw [this]
  have a3 : pC (R0 + R1 + (R2 + R3)) = R0 + R1 + (R2 + R3) + (R4 + R5 + (R6 + R7)) := by
    have e0 : R0 = (c0 + 256 * c1 + 65536 * c2 + 16777216 * c3) + 4294967296 * R4 := by rw [r0, r1, r2, r3]; exact pl4
    have e1 : R1 = (c1 + 256 * c2 + 65536 * c3 + 16777216 * c4) + 4294967296 * R5 := by rw [r1, r2, r3, r4]; exact pl4
    have e2 : R2 = (c2 + 256 * c3 + 65536 * c4 + 16777216 * c5) + 4294967296 * R6 := by rw [r2, r3, r4, r5]; exact pl4
    have e3 : R3 = (c3 + 256 * c4 + 65536 * c5 + 16777216 * c6) + 4294967296 * R7 := by rw [r3, r4, r5, r6]; exact pl4
    have e : R0 + R1 + (R2 + R3) = (c0 + 256 * c1 + 65536 * c2 + 16777216 * c3 + (c1 + 256 * c2 + 65536 * c3 + 16777216 * c4) + ((c2 + 256 * c3 + 65536 * c4 + 16777216 * c5) + (c3 + 256 * c4 + 65536 * c5 + 16777216 * c6))) + 4294967296 * (R4 + R5 + (R6 + R7)) := by
      rw [← pl44, ← e0, ← e1, ← e2, ← e3]
    have : (R0 + R1 + (R2 + R3)) / 4294967296 = R4 + R5 + (R6 + R7) := by
      rw [e]; exact dv32 (by clear e e0 e1 e2 e3 r0 r1 r2 r3 r4 r5 r6 r7 b0 b1 b2 b3 b4 b5 b6 b7; omega)
    unfold pC; rw [this]
  rw [a1, a2, a3]
  refine ⟨by clear r0 r1 r2 r3 r4 r5 r6; omega, ?_, by clear r0 r1 r2 r3 r4 r5 r6; omega, by clear r0 r1 r2 r3 r4 r5 r6; omega, by clear r0 r1 r2 r3 r4 r5 r6; omega⟩
  exact pm8 r0 r1 r2 r3 r4 r5 r6 (show R7 = c7 + 256 * 0 by rw [r7, Nat.mul_zero, Nat.add_zero]) (by clear r0 r1 r2 r3 r4 r5 r6 r7; omega)
theorem pop_n (x : Nat) : w123 8 x < 2 ^ 60 ∧ pC (pB (pA (w123 8 x))) % 128 = sumB 64 x ∧ pC (pB (pA (w123 8 x))) < 2 ^ 64 ∧ pB (pA (w123 8 x)) < 2 ^ 63 ∧ pA (w123 8 x) < 2 ^ 62 := by
  have st : ∀ n y : Nat, w123 (n + 1) y = pc8 (y % 256) + 256 * w123 n (y / 256) := fun n y => by
    have := w123_s (n := n) (q := y / 256) (b := y % 256) (Nat.mod_lt _ (by omega))
    rw [Nat.div_add_mod] at this
    rw [this, Nat.add_comm]
  have S : sumB 64 x = pc8 (x % 256) + pc8 (x / 256 % 256) + pc8 (x / 256 / 256 % 256) + pc8 (x / 256 / 256 / 256 % 256) + pc8 (x / 256 / 256 / 256 / 256 % 256) + pc8 (x / 256 / 256 / 256 / 256 / 256 % 256) + pc8 (x / 256 / 256 / 256 / 256 / 256 / 256 % 256) + pc8 (x / 256 / 256 / 256 / 256 / 256 / 256 / 256 % 256) := by
    rw [sumB_8 56, sumB_8 48, sumB_8 40, sumB_8 32, sumB_8 24, sumB_8 16, sumB_8 8, sumB_8 0, sumB_0]
    simp only [Nat.add_assoc, Nat.add_zero]
  rw [S]
  exact pop_a (pc8_le _) (pc8_le _) (pc8_le _) (pc8_le _) (pc8_le _) (pc8_le _) (pc8_le _) (pc8_le _) (st 7 x) (st 6 _) (st 5 _) (st 4 _) (st 3 _) (st 2 _) (st 1 _) (by rw [st 0, w123_0, Nat.mul_zero, Nat.add_zero])
def nv (x : Int64) : Nat := x.toBitVec.toNat
theorem nv_lt (x : Int64) : nv x < 2 ^ 64 := x.toBitVec.isLt
theorem nv_sub {a b : Int64} (h : nv b ≤ nv a) : nv (a - b) = nv a - nv b := by
  show (a.toBitVec - b.toBitVec).toNat = _
  rw [BitVec.toNat_sub]
  have h1 := nv_lt a
  have h2 := nv_lt b
  unfold nv at *
  omega
theorem nv_add {a b : Int64} (h : nv a + nv b < 2 ^ 64) : nv (a + b) = nv a + nv b := by
  show (a.toBitVec + b.toBitVec).toNat = _
  rw [BitVec.toNat_add]
  unfold nv at *
  omega
theorem nv_and (a b : Int64) : nv (a &&& b) = nv a &&& nv b := by
  show (a.toBitVec &&& b.toBitVec).toNat = _
  rw [BitVec.toNat_and]; rfl
theorem nv_shr (x : Int64) {k : Nat} (hk : k < 64) : nv (x.toUInt64 >>> ((Int32.ofNat k).toInt64.toUInt64 &&& Int64.toUInt64 63)).toInt64 = nv x / 2 ^ k := by
  unfold nv
  rw [shr_u x hk, BitVec.toNat_ushiftRight, Nat.shiftRight_eq_div_pow]
theorem nv_32 (x : Int64) : x.toInt32 &&& 127 = Int32.ofNat (nv x % 128) := by
  apply Int32.toBitVec_inj.mp
  apply BitVec.eq_of_toNat_eq
  show (x.toBitVec.signExtend 32 &&& 127#32).toNat = (BitVec.ofNat 32 (nv x % 128)).toNat
  have e127 : (127#32).toNat = 2 ^ 7 - 1 := by decide
  rw [BitVec.toNat_and, e127, Nat.and_two_pow_sub_one_eq_mod, BitVec.signExtend_eq_setWidth_of_le _ (by omega), BitVec.toNat_setWidth, BitVec.toNat_ofNat]
  unfold nv
  omega
theorem p_popL (h : MHp) (x : Int64) : mJ13_bitCount_95d88 h x = some (Int32.ofNat (sumB 64 (nv x))) := by
  have sh : ∀ (y : Int64) (k : Nat), k < 64 → nv (y.toUInt64 >>> ((Int32.ofNat k).toInt64.toUInt64 &&& Int64.toUInt64 63)).toInt64 = nv y / 2 ^ k := fun y k hk => nv_shr y hk
  have hx := nv_lt x
  obtain ⟨p0, p1, p2, p3, p4⟩ := pop_n (nv x)
  obtain ⟨Y1, hY1⟩ : ∃ Y : Int64, Y = x - ((x.toUInt64 >>> ((1 : Int32).toInt64.toUInt64 &&& Int64.toUInt64 63)).toInt64 &&& 6148914691236517205) := ⟨_, rfl⟩
  have n1 : nv ((x.toUInt64 >>> ((1 : Int32).toInt64.toUInt64 &&& Int64.toUInt64 63)).toInt64 &&& 6148914691236517205) = nv x / 2 &&& rm 85 8 := by
    rw [nv_and, show (1 : Int32) = Int32.ofNat 1 from rfl, sh x 1 (by omega)]; rfl
  have e1 : nv Y1 = w1 8 (nv x) := by
    have l : nv x / 2 &&& rm 85 8 ≤ nv x / 2 := Nat.and_le_left
    rw [hY1, nv_sub (by rw [n1]; omega), n1]; rfl
  obtain ⟨Y2, hY2⟩ : ∃ Y : Int64, Y = (Y1 &&& 3689348814741910323) + ((Y1.toUInt64 >>> ((2 : Int32).toInt64.toUInt64 &&& Int64.toUInt64 63)).toInt64 &&& 3689348814741910323) := ⟨_, rfl⟩
  have e2 : nv Y2 = w2 8 (w1 8 (nv x)) := by
    have a1 : nv (Y1 &&& 3689348814741910323) = nv Y1 &&& rm 51 8 := by rw [nv_and]; rfl
    have a2 : nv ((Y1.toUInt64 >>> ((2 : Int32).toInt64.toUInt64 &&& Int64.toUInt64 63)).toInt64 &&& 3689348814741910323) = nv Y1 / 4 &&& rm 51 8 := by
      rw [nv_and, show (2 : Int32) = Int32.ofNat 2 from rfl, sh Y1 2 (by omega)]; rfl
    have l1 : nv Y1 &&& rm 51 8 ≤ rm 51 8 := Nat.and_le_right
    have l2 : nv Y1 / 4 &&& rm 51 8 ≤ rm 51 8 := Nat.and_le_right
    have l3 : rm 51 8 = 3689348814741910323 := by decide
    rw [hY2, nv_add (by rw [a1, a2]; omega), a1, a2, e1]; rfl
  obtain ⟨Y3, hY3⟩ : ∃ Y : Int64, Y = (Y2 + (Y2.toUInt64 >>> ((4 : Int32).toInt64.toUInt64 &&& Int64.toUInt64 63)).toInt64) &&& 1085102592571150095 := ⟨_, rfl⟩
  have b2 : w2 8 (w1 8 (nv x)) ≤ 2 * 3689348814741910323 := by
    unfold w2
    have l1 : w1 8 (nv x) &&& rm 51 8 ≤ rm 51 8 := Nat.and_le_right
    have l2 : w1 8 (nv x) / 4 &&& rm 51 8 ≤ rm 51 8 := Nat.and_le_right
    have l3 : rm 51 8 = 3689348814741910323 := by decide
    omega
  have e3 : nv Y3 = w123 8 (nv x) := by
    have a2 : nv (Y2.toUInt64 >>> ((4 : Int32).toInt64.toUInt64 &&& Int64.toUInt64 63)).toInt64 = nv Y2 / 16 := by
      rw [show (4 : Int32) = Int32.ofNat 4 from rfl, sh Y2 4 (by omega)]
    rw [hY3, nv_and, nv_add (by rw [a2, e2]; omega), a2, e2]; rfl
  obtain ⟨Y4, hY4⟩ : ∃ Y : Int64, Y = Y3 + (Y3.toUInt64 >>> ((8 : Int32).toInt64.toUInt64 &&& Int64.toUInt64 63)).toInt64 := ⟨_, rfl⟩
  have e4 : nv Y4 = pA (w123 8 (nv x)) := by
    have a2 : nv (Y3.toUInt64 >>> ((8 : Int32).toInt64.toUInt64 &&& Int64.toUInt64 63)).toInt64 = nv Y3 / 256 := by
      rw [show (8 : Int32) = Int32.ofNat 8 from rfl, sh Y3 8 (by omega)]
    rw [hY4, nv_add (by rw [a2, e3]; omega), a2, e3]; rfl
  obtain ⟨Y5, hY5⟩ : ∃ Y : Int64, Y = Y4 + (Y4.toUInt64 >>> ((16 : Int32).toInt64.toUInt64 &&& Int64.toUInt64 63)).toInt64 := ⟨_, rfl⟩
  have e5 : nv Y5 = pB (pA (w123 8 (nv x))) := by
    have a2 : nv (Y4.toUInt64 >>> ((16 : Int32).toInt64.toUInt64 &&& Int64.toUInt64 63)).toInt64 = nv Y4 / 65536 := by
      rw [show (16 : Int32) = Int32.ofNat 16 from rfl, sh Y4 16 (by omega)]
    rw [hY5, nv_add (by rw [a2, e4]; omega), a2, e4]; rfl
  obtain ⟨Y6, hY6⟩ : ∃ Y : Int64, Y = Y5 + (Y5.toUInt64 >>> ((32 : Int32).toInt64.toUInt64 &&& Int64.toUInt64 63)).toInt64 := ⟨_, rfl⟩
  have e6 : nv Y6 = pC (pB (pA (w123 8 (nv x)))) := by
    have a2 : nv (Y5.toUInt64 >>> ((32 : Int32).toInt64.toUInt64 &&& Int64.toUInt64 63)).toInt64 = nv Y5 / 4294967296 := by
      rw [show (32 : Int32) = Int32.ofNat 32 from rfl, sh Y5 32 (by omega)]
    have p2' := p2
    unfold pC at p2'
    rw [hY6, nv_add (by rw [a2, e5]; exact p2'), a2, e5]; rfl
  rw [mJ13_bitCount_95d88, o_bind, ← hY1, o_bind, ← hY2, o_bind, ← hY3, o_bind, ← hY4, o_bind, ← hY5, o_bind, ← hY6, nv_32, e6, p1]
/-- the count of those for which p is, as the bits of their long -/
theorem sumB_cnt (p : Nat → Bool) : ∀ (n j a x : Nat), (∀ k : Nat, k < n → x.testBit k = p (j + k)) → cntF p n j (Int32.ofNat a) = Int32.ofNat (a + sumB n x) := by
  intro n
  induction n with
  | zero => intro j a x _; rw [cntF_0, sumB_0, Nat.add_zero]
  | succ n ih =>
    intro j a x h
    have h0 := h 0 (by omega)
    rw [Nat.testBit_zero, Nat.add_zero] at h0
    have hs : ∀ k : Nat, k < n → (x / 2).testBit k = p (j + 1 + k) := fun k hk => by
      have := h (k + 1) (by omega)
      rw [Nat.testBit_add_one] at this
      rw [this]
      congr 1
      omega
    rw [cntF_s, sumB_s]
    by_cases g : p j = true
    · rw [g, decide_eq_true_eq] at h0
      rw [if_pos g, s1_of, ih (j + 1) (a + 1) (x / 2) hs, h0, Nat.add_assoc]
    · have g2 : p j = false := by simpa using g
      rw [g2, decide_eq_false_iff_not] at h0
      have h1 : x % 2 = 0 := by omega
      rw [if_neg g, ih (j + 1) a (x / 2) hs, h1, Nat.zero_add]
theorem cntF_cut (p : Nat → Bool) : ∀ (n t j : Nat) (a : Int32), (∀ k : Nat, j + n ≤ k → p k = false) → cntF p (n + t) j a = cntF p n j a := by
  intro n
  induction n with
  | zero =>
    intro t
    induction t with
    | zero => intro j a _; rfl
    | succ t ih =>
      intro j a h
      rw [show 0 + (t + 1) = (0 + t) + 1 by omega, cntF_s, if_neg (by rw [h j (by omega)]; decide), ih (j + 1) a (fun k hk => h k (by omega))]
      rfl
  | succ n ih =>
    intro t j a h
    rw [show n + 1 + t = (n + t) + 1 by omega, cntF_s, cntF_s, ih t (j + 1) _ (fun k hk => h k (by omega))]
theorem p_popm (h : MHp) (p : Nat → Bool) {n : Nat} (hn : n ≤ 64) : mJ13_bitCount_95d88 h (msL p n 0 0) = some (cntF p n 0 0) := by
  rw [p_popL]
  refine congrArg some ?_
  have h1 := sumB_cnt (fun j => decide (j < n) && p j) 64 0 0 (nv (msL p n 0 0)) (fun k hk => by
    have e := bL_msL p n 0 0 k (by omega)
    rw [bL_0, Bool.false_or] at e
    show bL (msL p n 0 0) k = _
    rw [e, Nat.zero_add, Nat.zero_add]
    congr 1
    exact decide_eq_decide.mpr ⟨fun h => h.2, fun h => ⟨Nat.zero_le _, h⟩⟩)
  rw [Nat.zero_add] at h1
  rw [← h1, show (64 : Nat) = n + (64 - n) by omega, cntF_cut _ n (64 - n) 0 _ (fun k hk => by
    have : ¬ k < n := by omega
    simp [this])]
  exact cntF_congr n 0 _ (fun r _ hr => by
    have : r < n := by omega
    simp [this])

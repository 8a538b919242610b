/-! agreed: longs that are numbers, Euclid's way, fractions -/
theorem l_mul (a b : Nat) : Int64.ofNat a * Int64.ofNat b = Int64.ofNat (a * b) := (Int64.ofNat_mul a b).symm
theorem l_add (a b : Nat) : Int64.ofNat a + Int64.ofNat b = Int64.ofNat (a + b) := (Int64.ofNat_add a b).symm
theorem l_div {a b : Nat} (ha : a < 2 ^ 63) (hb : b < 2 ^ 63) : Int64.ofNat a / Int64.ofNat b = Int64.ofNat (a / b) := (Int64.ofNat_div ha hb).symm
theorem l_eq {a b : Nat} (ha : a < 2 ^ 63) (hb : b < 2 ^ 63) : (Int64.ofNat a = Int64.ofNat b) = (a = b) := by
  apply propext
  constructor
  · intro h
    have := congrArg Int64.toInt h
    rw [Int64.toInt_ofNat_of_lt ha, Int64.toInt_ofNat_of_lt hb] at this
    omega
  · intro h; rw [h]
theorem l_le {a b : Nat} (ha : a < 2 ^ 63) (hb : b < 2 ^ 63) : (Int64.ofNat a ≤ Int64.ofNat b) = (a ≤ b) := propext (Int64.ofNat_le_iff_le ha hb)
theorem l_md {a b : Nat} (ha : a < 2 ^ 63) (hb : b < 2 ^ 63) : Int64.ofNat a - Int64.ofNat a / Int64.ofNat b * Int64.ofNat b = Int64.ofNat (a % b) := by
  rw [l_div ha hb, l_mul, ← Int64.ofNat_sub _ _ (Nat.div_mul_le_self a b)]
  congr 1
  have := Nat.div_add_mod a b
  rw [Nat.mul_comm] at this
  omega
theorem l_i {n : Nat} (h : n < 2147483648) : (Int32.ofNat n).toInt64 = Int64.ofNat n := by
  refine Int32.toInt64_ofNat' ?_
  have : Int32.maxValue.toInt = 2147483647 := rfl
  rw [this]; omega
theorem l_z {a : Nat} (ha : a < 2 ^ 63) : (lg_cmp (Int64.ofNat a) 0 = 0) = (a = 0) := by
  rw [lg0, show (0 : Int64) = Int64.ofNat 0 from rfl, l_eq ha (by decide)]
theorem l_n {a : Nat} (ha : a < 2 ^ 63) : (lg_cmp (Int64.ofNat a) 0 ≤ 0) = (a = 0) := by
  rw [show (lg_cmp (Int64.ofNat a) 0 ≤ 0) = (Int64.ofNat a ≤ 0) from propext (lg_cmp_le _ _), show (0 : Int64) = Int64.ofNat 0 from rfl, l_le ha (by decide)]
  exact propext ⟨fun h => by omega, fun h => by omega⟩
theorem l_nz {a : Nat} (ha : a < 2 ^ 63) (h0 : ¬ a = 0) : nzL (Int64.ofNat a) = some () := by
  unfold nzL
  rw [if_neg]
  rw [show (0 : Int64) = Int64.ofNat 0 from rfl, l_eq ha (by decide)]
  exact h0
theorem half_mod {b r : Nat} (h0 : 0 < r) (h1 : r < b) : 2 * (b % r) < b := by
  have h2 := Nat.mod_lt b h0
  have h3 : b % r ≤ b - r := by
    rw [Nat.mod_eq_sub_mod (by omega)]
    exact Nat.mod_le _ _
  omega
theorem gcd_st (a b : Nat) : Nat.gcd b (a % b) = Nat.gcd a b := by
  rw [Nat.gcd_comm a b, Nat.gcd_rec b a, Nat.gcd_comm]
theorem c_gcd_s {h : MHp} {fu a b t : Nat} (ha : a < 2 ^ 63) (hb : b < 2 ^ 63) (h0 : ¬ b = 0) (ht : t < 1000000) : mX0_commonDivisor_l3 h (fu + 1) (Int64.ofNat a) (Int64.ofNat b) (Int32.ofNat t) = mX0_commonDivisor_l3 h fu (Int64.ofNat b) (Int64.ofNat (a % b)) (Int32.ofNat (t + 1)) := by
  have c1 : ¬ (1000000 : Int32) ≤ Int32.ofNat t := by rw [show (1000000 : Int32) = Int32.ofNat 1000000 from rfl, le_of (by omega) (by omega)]; omega
  have c2 : ¬ lg_cmp (Int64.ofNat b) 0 = 0 := by rw [l_z hb]; exact h0
  rw [mX0_commonDivisor_l3, if_neg c1, if_neg c2, l_nz hb h0, o_bind, l_md ha hb, s1_of]
theorem c_gcd_0 {h : MHp} {fu a t : Nat} (ht : t < 1000000) : mX0_commonDivisor_l3 h (fu + 1) (Int64.ofNat a) (Int64.ofNat 0) (Int32.ofNat t) = some (Int64.ofNat a) := by
  have c1 : ¬ (1000000 : Int32) ≤ Int32.ofNat t := by rw [show (1000000 : Int32) = Int32.ofNat 1000000 from rfl, le_of (by omega) (by omega)]; omega
  have c2 : lg_cmp (Int64.ofNat 0) 0 = 0 := by rw [l_z (by decide)]
  rw [mX0_commonDivisor_l3, if_neg c1, if_pos c2]
theorem c_gcd {h : MHp} : ∀ (k fu a b t : Nat), b < 2 ^ k → k ≤ 63 → 2 * k < fu → t + 2 * k < 1000000 → a < 2 ^ 63 → mX0_commonDivisor_l3 h fu (Int64.ofNat a) (Int64.ofNat b) (Int32.ofNat t) = some (Int64.ofNat (Nat.gcd a b)) := by
  intro k
  induction k with
  | zero =>
    intro fu a b t hb hk hf ht ha
    have hb0 : b = 0 := by simpa using hb
    subst hb0
    obtain ⟨fu, rfl⟩ : ∃ g : Nat, fu = g + 1 := ⟨fu - 1, by omega⟩
    rw [c_gcd_0 (by omega), Nat.gcd_zero_right]
  | succ k ih =>
    intro fu a b t hb hk hf ht ha
    have hp : 2 ^ (k + 1) ≤ 2 ^ 63 := Nat.pow_le_pow_right (by omega) hk
    obtain ⟨fu, rfl⟩ : ∃ g : Nat, fu = g + 2 := ⟨fu - 2, by omega⟩
    by_cases h0 : b = 0
    · subst h0
      rw [c_gcd_0 (by omega), Nat.gcd_zero_right]
    · rw [c_gcd_s ha (by omega) h0 (by omega)]
      have hr := Nat.mod_lt a (show 0 < b by omega)
      by_cases h1 : a % b = 0
      · rw [← gcd_st, h1, c_gcd_0 (by omega), Nat.gcd_zero_right]
      · rw [c_gcd_s (by omega) (by omega) h1 (by omega)]
        have h2 := half_mod (show 0 < a % b by omega) hr
        have h3 : b % (a % b) < 2 ^ k := by
          rw [Nat.pow_succ] at hb
          omega
        rw [ih fu (a % b) (b % (a % b)) (t + 1 + 1) h3 (by omega) (by omega) (by omega) (by omega), gcd_st, gcd_st]
theorem p_gcd {h : MHp} {a b : Nat} (ha : a < 2 ^ 63) (hb : b < 2 ^ 63) : mX0_commonDivisor h (Int64.ofNat a) (Int64.ofNat b) = some (Int64.ofNat (Nat.gcd a b)) := c_gcd 63 FUEL a b 0 hb (by omega) (by unfold FUEL; omega) (by omega) ha
theorem q_gcd_s {h : MHp} {fu x y : Nat} (hx : x < 2 ^ 63) (hy : y < 2 ^ 63) (h0 : ¬ x = 0) : mX16_common_l6 h (fu + 1) (Int64.ofNat x) (Int64.ofNat y) = mX16_common_l6 h fu (Int64.ofNat (y % x)) (Int64.ofNat x) := by
  have c2 : ¬ lg_cmp (Int64.ofNat x) 0 ≤ 0 := by rw [l_n hx]; exact h0
  rw [mX16_common_l6, if_neg c2, l_nz hx h0, o_bind, l_md hy hx]
theorem q_gcd_0 {h : MHp} {fu y : Nat} : mX16_common_l6 h (fu + 1) (Int64.ofNat 0) (Int64.ofNat y) = some (Int64.ofNat y) := by
  have c2 : lg_cmp (Int64.ofNat 0) 0 ≤ 0 := by rw [l_n (by decide)]
  rw [mX16_common_l6, if_pos c2]
theorem q_gcd {h : MHp} : ∀ (k fu x y : Nat), x < 2 ^ k → k ≤ 63 → 2 * k < fu → y < 2 ^ 63 → mX16_common_l6 h fu (Int64.ofNat x) (Int64.ofNat y) = some (Int64.ofNat (Nat.gcd x y)) := by
  intro k
  induction k with
  | zero =>
    intro fu x y hx hk hf hy
    have hx0 : x = 0 := by simpa using hx
    subst hx0
    obtain ⟨fu, rfl⟩ : ∃ g : Nat, fu = g + 1 := ⟨fu - 1, by omega⟩
    rw [q_gcd_0, Nat.gcd_zero_left]
  | succ k ih =>
    intro fu x y hx hk hf hy
    have hp : 2 ^ (k + 1) ≤ 2 ^ 63 := Nat.pow_le_pow_right (by omega) hk
    obtain ⟨fu, rfl⟩ : ∃ g : Nat, fu = g + 2 := ⟨fu - 2, by omega⟩
    by_cases h0 : x = 0
    · subst h0
      rw [q_gcd_0, Nat.gcd_zero_left]
    · rw [q_gcd_s (by omega) hy h0, Nat.gcd_rec x y]
      have hr := Nat.mod_lt y (show 0 < x by omega)
      by_cases h1 : y % x = 0
      · rw [h1, q_gcd_0, Nat.gcd_zero_left]
      · rw [q_gcd_s (by omega) (by omega) h1, Nat.gcd_rec (y % x) x]
        have h2 := half_mod (show 0 < y % x by omega) hr
        have h3 : x % (y % x) < 2 ^ k := by
          rw [Nat.pow_succ] at hx
          omega
        rw [ih fu (x % (y % x)) (y % x) h3 (by omega) (by omega) (by omega)]
theorem r_gcd {h : MHp} {x y : Nat} (hx : x < 2 ^ 63) (hy : y < 2 ^ 63) : mX16_common h (Int64.ofNat x) (Int64.ofNat y) = some (Int64.ofNat (Nat.gcd x y)) := q_gcd 63 FUEL x y hx (by omega) (by unfold FUEL; omega) hy
/-- a fraction in lowest terms; one more part of it -/
def lwN (n d : Nat) : Nat := n / Nat.gcd n d
def lwD (n d : Nat) : Nat := d / Nat.gcd n d
theorem lw_st {n d a p : Nat} (hd : 0 < d) : lwN (lwN n d * a + p * lwD n d) (lwD n d * a) = lwN (n * a + p * d) (d * a) ∧ lwD (lwN n d * a + p * lwD n d) (lwD n d * a) = lwD (n * a + p * d) (d * a) := by
  have hg : 0 < Nat.gcd n d := Nat.gcd_pos_of_pos_right n hd
  have e1 : Nat.gcd n d * lwN n d = n := Nat.mul_div_cancel' (Nat.gcd_dvd_left n d)
  have e2 : Nat.gcd n d * lwD n d = d := Nat.mul_div_cancel' (Nat.gcd_dvd_right n d)
  have e3 : n * a + p * d = Nat.gcd n d * (lwN n d * a + p * lwD n d) := by
    rw [Nat.mul_add, ← Nat.mul_assoc, e1, Nat.mul_left_comm, e2]
  have e4 : d * a = Nat.gcd n d * (lwD n d * a) := by rw [← Nat.mul_assoc, e2]
  have key : ∀ g x y : Nat, 0 < g → lwN (g * x) (g * y) = lwN x y ∧ lwD (g * x) (g * y) = lwD x y := by
    intro g x y hg
    unfold lwN lwD
    rw [Nat.gcd_mul_left]
    exact ⟨Nat.mul_div_mul_left _ _ hg, Nat.mul_div_mul_left _ _ hg⟩
  rw [e3, e4]
  exact ⟨(key _ _ _ hg).1.symm, (key _ _ _ hg).2.symm⟩
theorem lw_le (n d : Nat) : lwN n d ≤ n ∧ lwD n d ≤ d := ⟨Nat.div_le_self _ _, Nat.div_le_self _ _⟩
theorem lw_01 : lwN 0 1 = 0 ∧ lwD 0 1 = 1 := by decide
theorem lw_pos {n d : Nat} (hd : 0 < d) : 0 < lwD n d := Nat.div_pos (Nat.le_of_dvd hd (Nat.gcd_dvd_right n d)) (Nat.gcd_pos_of_pos_right n hd)
/-- sums of numbers are numbers -/
theorem sumF_n {ok : Nat → Bool} {w : Nat → Int64} (M : Nat) : ∀ (q k a : Nat), (∀ r : Nat, k ≤ r → r < k + q → ok r = true → ∃ x : Nat, x ≤ M ∧ w r = Int64.ofNat x) → ∃ s : Nat, s ≤ a + q * M ∧ a ≤ s ∧ sumF ok w q k (Int64.ofNat a) = Int64.ofNat s := by
  intro q
  induction q with
  | zero => intro k a _; exact ⟨a, by omega, by omega, sumF_0 _ _ _ _⟩
  | succ q ih =>
    intro k a hx
    by_cases g : ok k = true
    · obtain ⟨x, x1, x2⟩ := hx k (by omega) (by omega) g
      obtain ⟨s, s1, s2, s3⟩ := ih (k + 1) (a + x) (fun r h1 h2 => hx r (by omega) (by omega))
      refine ⟨s, ?_, by omega, ?_⟩
      · rw [Nat.add_mul]; omega
      · rw [sumF_s, if_pos g, x2, l_add, s3]
    · obtain ⟨s, s1, s2, s3⟩ := ih (k + 1) a (fun r h1 h2 => hx r (by omega) (by omega))
      refine ⟨s, ?_, by omega, ?_⟩
      · rw [Nat.add_mul]; omega
      · rw [sumF_s, if_neg g, s3]
/-- a fraction's part: the weights of a value, those of the cell, the known sum -/
def fpN (a o k : Nat) (x : Nat × Nat) : Nat × Nat := if a = 0 then x else (x.1 * a + o * k * x.2, x.2 * a)
theorem fpN_b {a o k N D : Nat} {x : Nat × Nat} (ha : a ≤ 5940) (ho : o ≤ 53460) (hk : k ≤ 1000000) (h1 : x.1 ≤ N) (h2 : x.2 ≤ D) (h3 : 0 < x.2) : (fpN a o k x).1 ≤ N * 5940 + 53460 * 1000000 * D ∧ (fpN a o k x).2 ≤ D * 5940 ∧ 0 < (fpN a o k x).2 := by
  unfold fpN
  by_cases g : a = 0
  · rw [if_pos g]; exact ⟨by omega, by omega, h3⟩
  · rw [if_neg g]
    exact ⟨Nat.add_le_add (Nat.mul_le_mul h1 ha) (Nat.mul_le_mul (Nat.mul_le_mul ho hk) h2), Nat.mul_le_mul h2 ha, Nat.mul_pos h3 (by omega)⟩

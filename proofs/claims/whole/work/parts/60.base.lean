theorem zz_1 (a b : Int32) (h : a < b) (h2 : b < 100) (h3 : 0 ≤ a) : a + 1 ≤ b := by grind
theorem zz_2 (a : Int32) (h : a < 100) (h3 : 0 ≤ a) : (a * 6 + 3).toInt = a.toInt * 6 + 3 := by grind
theorem zz_3 (n : Nat) (h : n < 100) : (Int32.ofNat n * 6 + 3) = Int32.ofNat (n * 6 + 3) := by grind
theorem zz_4 (n : Nat) (h : n < 100) : (Int32.ofNat n).toNatClampNeg = n := by grind
theorem zz_5 (n m : Nat) (h : n < 100) (hm : m < 100) : Int32.ofNat n < Int32.ofNat m ↔ n < m := by grind
theorem zz_6 (n m : Nat) (h : n < 100) (hm : m < 100) : Int32.ofNat n + Int32.ofNat m = Int32.ofNat (n + m) := by simp
theorem zz_7 (n : Nat) (h : n < 100) : (Int32.ofNat n).toNatClampNeg = n := by simp [Int32.toNatClampNeg]; omega
theorem zz_8 (x : Int) (h : Int.bmod x 4294967296 = x + 1) : False := by omega
theorem zz_9 (h : MHp) (a : Nat) (v : Int32) : hI (sI h a 3 v) a 3 = v := by simp [sI, hI, mkH, up2]

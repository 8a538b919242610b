/-! small, the end -/
theorem cnt_n (P : Nat → Bool) : ∀ (q k n : Nat), ∃ j : Nat, j ≤ n + q ∧ n ≤ j ∧ cntF P q k (Int32.ofNat n) = Int32.ofNat j := by
  intro q
  induction q with
  | zero => intro k n; exact ⟨n, by omega, by omega, cntF_0 _ _ _⟩
  | succ q ih =>
    intro k n
    by_cases g : P k = true
    · obtain ⟨j, j1, j2, j3⟩ := ih (k + 1) (n + 1)
      exact ⟨j, by omega, by omega, by rw [cntF_s, if_pos g, s1_of, j3]⟩
    · obtain ⟨j, j1, j2, j3⟩ := ih (k + 1) n
      exact ⟨j, by omega, by omega, by rw [cntF_s, if_neg g, j3]⟩
theorem th0_n {s : Int32} {n : Nat} (hn : n < 2147483648) : th0 s (Int32.ofNat n) = if Int32.ofNat n = 0 then 0 else (1000 * s) / Int32.ofNat n := by
  unfold th0
  have e : (Int32.ofNat n ≤ 0) = (Int32.ofNat n = 0) := by
    rw [show (0 : Int32) = Int32.ofNat 0 from rfl, le_of hn (by omega), eq_of hn (by omega)]
    exact propext ⟨fun h => by omega, fun h => by omega⟩
  by_cases z : Int32.ofNat n = 0
  · rw [if_pos z, if_pos (by rw [e]; exact z)]
  · rw [if_neg z, if_neg (by rw [e]; exact z), Int32.mul_comm]
theorem th0_N {A : AS} (W : WA A) (k f u : Nat) (lk : Bool) : th0 (smS A k f u lk) (smN A f u lk) = if smN A f u lk = 0 then 0 else (1000 * smS A k f u lk) / smN A f u lk := by
  have h60 := W.2.2.2.1
  obtain ⟨j, j1, -, j3⟩ := cnt_n (smQ A f u lk) (aN A 2) 0 0
  have e : smN A f u lk = Int32.ofNat j := j3
  rw [e]
  exact th0_n (by omega)
theorem th0_P {A : AS} (W : WA A) (f u : Nat) (lk : Bool) : ¬ (smN A f u lk + aS A 8 = 0) ∧ th0 (smN A f u lk) (smN A f u lk + aS A 8) = (1000 * smN A f u lk) / (smN A f u lk + aS A 8) := by
  have h60 := W.2.2.2.1
  obtain ⟨j, j1, -, j3⟩ := cnt_n (smQ A f u lk) (aN A 2) 0 0
  have e : smN A f u lk = Int32.ofNat j := j3
  obtain ⟨-, -, -, -, -, -, -, -, -, -, -, -, -, -, -, x1, x2, -⟩ := W
  have xn : ¬ aS A 8 < 0 := by
    rw [Int32.lt_iff_toInt_lt]
    rw [Int32.le_iff_toInt_le] at x1
    have a0 : (0 : Int32).toInt = 0 := rfl
    have a1 : (1 : Int32).toInt = 1 := rfl
    omega
  obtain ⟨x, ex, hx⟩ := ex_of xn
  rw [ex, show (1 : Int32) = Int32.ofNat 1 from rfl, le_of (by omega) (by omega)] at x1
  rw [ex, show (99 : Int32) = Int32.ofNat 99 from rfl, le_of (by omega) (by omega)] at x2
  have nz0 : ¬ Int32.ofNat (j + x) = 0 := by
    rw [show (0 : Int32) = Int32.ofNat 0 from rfl, eq_of (by omega) (by omega)]; omega
  rw [e, ex, ← Int32.ofNat_add]
  refine ⟨nz0, ?_⟩
  rw [th0_n (by omega), if_neg nz0]

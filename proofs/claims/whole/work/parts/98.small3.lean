/-! small, the end -/
theorem cnt_n (P : Nat → Bool) : ∀ (q k n : Nat), ∃ j : Nat, j ≤ n + q ∧ n ≤ j ∧ cntF P q k (Int32.ofNat n) = Int32.ofNat j := by
  intro q
  induction q with
  | zero => intro k n; exact ⟨n, by omega, by omega, cntF_0 _ _ _⟩
  | succ q ih =>
    intro k n
    by_cases g : P k = true
    · obtain ⟨j, j1, j2, j3⟩ := ih (k + 1) (n + 1)
      exact ⟨j, by omega, by omega, by rw [cntF_s, if_pos g, s1_of, j3]⟩
    · obtain ⟨j, j1, j2, j3⟩ := ih (k + 1) n
      exact ⟨j, by omega, by omega, by rw [cntF_s, if_neg g, j3]⟩
theorem th0_n {s : Int32} {n : Nat} (hn : n < 2147483648) : th0 s (Int32.ofNat n) = if Int32.ofNat n = 0 then 0 else (1000 * s) / Int32.ofNat n := by
  unfold th0
  have e : (Int32.ofNat n ≤ 0) = (Int32.ofNat n = 0) := by
    rw [show (0 : Int32) = Int32.ofNat 0 from rfl, le_of hn (by omega), eq_of hn (by omega)]
    exact propext ⟨fun h => by omega, fun h => by omega⟩
  by_cases z : Int32.ofNat n = 0
  · rw [if_pos z, if_pos (by rw [e]; exact z)]
  · rw [if_neg z, if_neg (by rw [e]; exact z), Int32.mul_comm]
theorem th0_N {A : AS} (W : WA A) (k f u : Nat) (lk : Bool) : th0 (smS A k f u lk) (smN A f u lk) = if smN A f u lk = 0 then 0 else (1000 * smS A k f u lk) / smN A f u lk := by
  have h60 := W.2.2.2.1
  obtain ⟨j, j1, -, j3⟩ := cnt_n (smQ A f u lk) (aN A 2) 0 0
  have e : smN A f u lk = Int32.ofNat j := j3
  rw [e]
  exact th0_n (by omega)
theorem th0_P {A : AS} (W : WA A) (f u : Nat) (lk : Bool) : ¬ (smN A f u lk + aS A 8 = 0) ∧ th0 (smN A f u lk) (smN A f u lk + aS A 8) = (1000 * smN A f u lk) / (smN A f u lk + aS A 8) := by
  have h60 := W.2.2.2.1
  obtain ⟨j, j1, -, j3⟩ := cnt_n (smQ A f u lk) (aN A 2) 0 0
  have e : smN A f u lk = Int32.ofNat j := j3
  obtain ⟨-, -, -, -, -, -, -, -, -, -, -, -, -, -, -, x1, x2, -⟩ := W
  have xn : ¬ aS A 8 < 0 := by
    rw [Int32.lt_iff_toInt_lt]
    rw [Int32.le_iff_toInt_le] at x1
    have a0 : (0 : Int32).toInt = 0 := rfl
    have a1 : (1 : Int32).toInt = 1 := rfl
    omega
  obtain ⟨x, ex, hx⟩ := ex_of xn
  rw [ex, show (1 : Int32) = Int32.ofNat 1 from rfl, le_of (by omega) (by omega)] at x1
  rw [ex, show (99 : Int32) = Int32.ofNat 99 from rfl, le_of (by omega) (by omega)] at x2
  have nz0 : ¬ Int32.ofNat (j + x) = 0 := by
    rw [show (0 : Int32) = Int32.ofNat 0 from rfl, eq_of (by omega) (by omega)]; omega
  rw [e, ex, ← Int32.ofNat_add]
  refine ⟨nz0, ?_⟩
  rw [th0_n (by omega), if_neg nz0]
def smV (A : AS) (k f u : Nat) (w : Int32) : Int32 := if w = 0 then (th0 (smS A k f u false) (smN A f u false) * th0 (smN A f u false) (smN A f u false + aS A 8) + th0 (smS A k f u true) (smN A f u true) * (1000 - th0 (smN A f u false) (smN A f u false + aS A 8))) / 1000 else if w = 1 then th0 (smS A k f u false) (smN A f u false) else if w = 2 then th0 (smS A k f u true) (smN A f u true) else th0 (smN A f u false) (smN A f u false + aS A 8)
theorem c_smallOK {c k f u : Nat} {h : MHp} {A : AS} (C : CR c h A) (W : WA A) (hk : k < aN A 1) (hf : f < bF (aB A)) (hu : u ≤ bT (aB A) f) (w : Int32) : ∃ h' : MHp, mX11_small_b56 h c (Int32.ofNat k) (Int32.ofNat f) (Int32.ofNat u) w (some c) 0 = some (smV A k f u w, h') ∧ Sc c (sI h c 15 0) h' := by
  have L := C.l
  have h8 := W.2.2.1
  have C2 : CR c (sI h c 15 0) (tb A 0) := C.tb (by decide)
  have W2 : WA (tb A 0) := W.tb
  have L2 := C2.l
  have K2 := lK0 L2
  have e1 := p_hasTable1 C2 W2 hk
  have p2 := (C2.plan W2 hk).2.1
  obtain ⟨h2, e2, S, s2, s3, s4, s5⟩ := p_survey C2 W2 hk hf hu
  have C3 := C2.sc W2 S
  have L3 := C3.l
  have K3 := lK198 L3
  have x8 : hAI h2 (c + 184) 2 = aS A 8 := C3.2.2.1.2.2.1
  have bd := bad_n (k := k) (n := 9) (by omega) (by omega)
  have clk : (Int32.ofNat k).toNatClampNeg = k := cl_of (by omega)
  have b2 : ¬ bad 2 4 = true := by decide
  have c2 : (2 : Int32).toNatClampNeg = 2 := rfl
  have E : mX11_small_b56 h c (Int32.ofNat k) (Int32.ofNat f) (Int32.ofNat u) w (some c) 0 = some (smV (tb A 0) k f u w, h2) := by
    rw [mX11_small_b56, b_pI, if_pos (lK0 L), b_gI, if_pos K2, e_Iself, if_pos (show (0 : Int32) = 0 from rfl), b_rcv, if_pos K2, e1, o_bind, if_neg n10, b_gR, if_pos K2, lR0_9 L2, b_gR, if_pos K2, lR0_3 L2, b_gAR, if_pos (lK119 L2), lN119 L2, if_neg bd, clk, p2, b_rcv, if_pos (lK198 L2), e2, o_bind]
    unfold smV
    by_cases q0 : w = 0
    · rw [if_pos q0, if_pos q0, b_gR, if_pos (lK0 L3), lR0_9 L3, b_gR, if_pos (lK0 L3), lR0_5 L3, b_gAI, if_pos (lK184 L3), lN184 L3, if_neg b2, c2, x8, b_rcv, if_pos K3, p_joined K3, o_bind, s2, s3, s4, s5]
      rfl
    · rw [if_neg q0, if_neg q0]
      by_cases q1 : w = 1
      · rw [if_pos q1, if_pos q1, b_gR, if_pos (lK0 L3), lR0_9 L3, b_rcv, if_pos K3, p_own K3, o_bind, s2, s3]
      · rw [if_neg q1, if_neg q1]
        by_cases q2 : w = 2
        · rw [if_pos q2, if_pos q2, b_gR, if_pos (lK0 L3), lR0_9 L3, b_rcv, if_pos K3, p_like K3, o_bind, s4, s5]
        · rw [if_neg q2, if_neg q2, b_gR, if_pos (lK0 L3), lR0_9 L3, b_gR, if_pos (lK0 L3), lR0_5 L3, b_gAI, if_pos (lK184 L3), lN184 L3, if_neg b2, c2, x8, b_rcv, if_pos K3, p_part K3, o_bind, s2]
          rfl
  exact ⟨h2, E, S⟩

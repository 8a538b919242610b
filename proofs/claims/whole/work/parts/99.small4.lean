/-! small, the reference when it answers -/
theorem q_smallOK {m k f u : Nat} {h : MHp} {A : AS} (R : RR m h A) (W : WA A) (hk : k < aN A 1) (hf : f < bF (aB A)) (hu : u ≤ bT (aB A) f) (w : Int32) (hw : 0 ≤ w ∧ w ≤ 3) (hp : pI1 (aP A k) = none) : ∃ h' : MHp, mX16_small h m (Int32.ofNat k) (Int32.ofNat f) (Int32.ofNat u) w = some (smV A k f u w, rtb m h' 0) ∧ Rs m h h' := by
  have h8 := W.2.2.1
  have h6 := W.1.1
  have R2 := R.th 0
  have L := R2.1.1
  have K := qK0 L
  have S0 : Rs m h (sI h m 0 0) := Rs.I 0 0 (by decide)
  have e1 := q_isTable1 R2 W hk
  have e2 := q_isField1 R2 W hf
  obtain ⟨b, Q⟩ := R2.rq W (by omega)
  have B := Q.2.2.1.1
  have ur := (W.1.2.2.1 f hf).2.1
  have bt := (Q.2.2.1.2.2.2.1 f hf).2.1
  obtain ⟨p, q1, q2, -, -⟩ := R2.2.2.2.2.2 k hk
  have hg : hAI (sI h m 0 0) (m + 18) = aA A 11 := R2.2.2.1.2.2.2.2.2.2.2.2
  have x17 : hI (sI h m 0 0) p 1 = -1 := by rw [q2.2.2.1, hp]; rfl
  have bf := bad_n (k := f) (n := 6) (by omega) (by omega)
  have bk := bad_n (k := k) (n := 8) (by omega) (by omega)
  have clf : (Int32.ofNat f).toNatClampNeg = f := cl_of (by omega)
  have clk : (Int32.ofNat k).toNatClampNeg = k := cl_of (by omega)
  have iu : (0 : Int32) ≤ Int32.ofNat u ∧ Int32.ofNat u ≤ Int32.ofNat (bT (aB A) f) := by
    rw [show (0 : Int32) = Int32.ofNat 0 from rfl, le_of (by omega) (by omega), le_of (by omega) (by omega)]
    exact ⟨by omega, hu⟩
  obtain ⟨h2, t2, S2, -⟩ := q_thou true W hk hf hu Q q2 hg
  have t2' : mX16_thousandths (sI h m 0 0) m (some p) (Int32.ofNat f) (Int32.ofNat u) 1 = _ := t2
  have R3 := R2.sc S2
  have Q3 := Q.sc S2
  have q3 : RP (m + 26) h2 p (aP A k) := q2.ag (S2.out (Or.inr (by omega))) (by rw [S2.2.2.2.2.1]; exact Nat.le_refl _)
  obtain ⟨h3, t3, S3, i3⟩ := q_thou false W hk hf hu Q3 q3 R3.2.2.1.2.2.2.2.2.2.2.2
  have t3' : mX16_thousandths h2 m (some p) (Int32.ofNat f) (Int32.ofNat u) 0 = _ := t3
  have R4 := R3.sc S3
  have K2 := qK0 R3.1.1
  have K3 := qK0 R4.1.1
  have x39 : hI h3 m 39 = aS A 8 := R4.2.1.2.2.2.2.2.2.2.2.2.2.2.2.1
  obtain ⟨z1, z2⟩ := th0_P W f u false
  rw [← th0_N W k f u true] at t2'
  rw [← th0_N W k f u false] at t3'
  refine ⟨h3, ?_, (S0.tr S2).tr S3⟩
  rw [mX16_small, b_pI, if_pos (qK0 R.1.1), b_rcv, if_pos K, e1, o_bind, if_neg n10, b_rcv, if_pos K, e2, o_bind, if_neg n10, b_gR, if_pos K, Q.2.1, b_gR, if_pos B.1, B.2.2.1, b_gAI, if_pos B.2.2.2.2.2.2.1, B.2.2.2.2.2.2.2.2.2.2.1, if_neg bf, clf, bt, q_in, if_pos iu, o_bind, if_neg n10, q_in, if_pos hw, o_bind, if_neg n10, b_gR, if_pos K, qR6 L, b_gAR, if_pos (qK1 L), qN1 L, if_neg bk, clk, q1, b_gI, if_pos q2.1.1, x17, if_pos (show (-1 : Int32) = -1 from rfl), b_rcv, if_pos K, t2', o_bind, b_rcv, if_pos K2, t3', o_bind, b_gI, if_pos K3, i3, b_gI, if_pos K3, i3, b_gI, if_pos K3, x39, nz, if_neg z1, o_bind, ← z2]
  unfold smV
  by_cases w0 : w = 0
  · rw [if_pos w0, if_pos w0, mX16_small_b171, b_rcv, if_pos K3, q_done R4.1.1, o_bind]
  · rw [if_neg w0, if_neg w0]
    by_cases w1 : w = 1
    · rw [if_pos w1, if_pos w1, mX16_small_b171, b_rcv, if_pos K3, q_done R4.1.1, o_bind]
    · rw [if_neg w1, if_neg w1]
      by_cases w2 : w = 2
      · rw [if_pos w2, if_pos w2, mX16_small_b171, b_rcv, if_pos K3, q_done R4.1.1, o_bind]
      · rw [if_neg w2, if_neg w2, mX16_small_b171, b_rcv, if_pos K3, q_done R4.1.1, o_bind]

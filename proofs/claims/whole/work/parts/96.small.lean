/-! small -/
def th0 (a b : Int32) : Int32 := if b ≤ 0 then 0 else (a * 1000) / b
theorem p_thou (h : MHp) (a b : Int32) : mX6_thousandths h a b = some (th0 a b) := by
  unfold th0
  rw [mX6_thousandths]
  by_cases q : b ≤ 0
  · rw [if_pos q, if_pos q]
  · have nz0 : ¬ b = 0 := fun e => q (by rw [e]; decide)
    rw [if_neg q, if_neg q, nz, if_neg nz0, o_bind]
theorem p_own {h : MHp} {p : Nat} (K : hK h p = 7) : mX6_own h p = some (th0 (hI h p 3) (hI h p 2)) := by
  rw [mX6_own, b_gI, if_pos K, b_gI, if_pos K, p_thou, o_bind]
theorem p_like {h : MHp} {p : Nat} (K : hK h p = 7) : mX6_like h p = some (th0 (hI h p 5) (hI h p 4)) := by
  rw [mX6_like, b_gI, if_pos K, b_gI, if_pos K, p_thou, o_bind]
theorem p_part {h : MHp} {p : Nat} (K : hK h p = 7) (x : Int32) : mX6_part h p x = some (th0 (hI h p 2) (hI h p 2 + x)) := by
  rw [mX6_part, b_gI, if_pos K, b_gI, if_pos K, p_thou, o_bind]
theorem p_joined {h : MHp} {p : Nat} (K : hK h p = 7) (x : Int32) : mX6_joined h p x = some ((th0 (hI h p 3) (hI h p 2) * th0 (hI h p 2) (hI h p 2 + x) + th0 (hI h p 5) (hI h p 4) * (1000 - th0 (hI h p 2) (hI h p 2 + x))) / 1000) := by
  rw [mX6_joined, b_rcv, if_pos K, p_own K, o_bind, b_rcv, if_pos K, p_part K, o_bind, b_rcv, if_pos K, p_like K, o_bind, b_rcv, if_pos K, p_part K, o_bind]
/-- the rows that speak for value u of field f (or for those in one group with it), and those of them that the plan wants -/
def smQ (A : AS) (f : Nat) (u : Nat) (lk : Bool) (r : Nat) : Bool := okA A r (aS A 3) 0 && decide (vX A r (aS A 3) 0 f ≠ -1) && (if lk = true then decide (vX A r (aS A 3) 0 f ≠ Int32.ofNat u) && decide (aA A 11 (10 * f + (vX A r (aS A 3) 0 f).toNatClampNeg) = aA A 11 (10 * f + u)) else decide (vX A r (aS A 3) 0 f = Int32.ofNat u))
def smH (A : AS) (k r : Nat) : Bool := tH (pW (aP A k)) (vX A r (aS A 3) 0)
def smN (A : AS) (f u : Nat) (lk : Bool) : Int32 := cntF (smQ A f u lk) (aN A 2) 0 0
def smS (A : AS) (k f u : Nat) (lk : Bool) : Int32 := cntF (fun r => smQ A f u lk r && smH A k r) (aN A 2) 0 0

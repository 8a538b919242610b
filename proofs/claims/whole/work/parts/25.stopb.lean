/-! Throwable's constructor, told whole: the three statics' worth is written over again -/
def mE2g (h : MHp) (a0 : Nat) (a1 a2 : Option Nat) (a3 a4 : Int32) : Option MHp := if hK h a0 = 14 ∧ a3 = 0 ∧ a4 = 0 then some (sR (sR (sR (sR h a0 1 none) a0 3 a1) a0 0 a2) a0 2 none) else none
theorem pR_at {kd : Nat} {h : MHp} {a : Nat} (hk : hK h a = kd) (k : Nat) (v : Option Nat) : pR kd k h (some a) v = some (sR h a k v) := by simp [pR, rcv, hk]
theorem hK_sR (h : MHp) (a k : Nat) (v : Option Nat) : hK (sR h a k v) = hK h := rfl
def sRR (h : MHp) (R : Nat → Nat → Option Nat) : MHp := mkH (hK h) (hN h) (hI h) (hL h) R (hAI h) (hAL h) (hAR h) (hS h) (hU h)
theorem sR_rr (h : MHp) (a k : Nat) (v : Option Nat) : sR h a k v = sRR h (up2 (hR h) a k v) := rfl
theorem hR_rr (h : MHp) (R : Nat → Nat → Option Nat) : hR (sRR h R) = R := rfl
theorem rr_rr (h : MHp) (R R' : Nat → Nat → Option Nat) : sRR (sRR h R) R' = sRR h R' := rfl
theorem E2_closed {h : MHp} {a0 : Nat} (a1 a2 o1 o2 : Option Nat) (hk : hK h a0 = 14) : mE2_init h a0 a1 a2 0 0 o1 o2 = some (sR (sR (sR (sR h a0 1 none) a0 3 a1) a0 0 a2) a0 2 none) := by
  unfold mE2_init mE2_init_b41
  simp only [pR_at hk, hK_sR, Option.bind_some, if_pos rfl, pR_at (show hK (sR h a0 0 (some a0)) a0 = 14 from hk), pR_at (show hK (sR (sR h a0 0 (some a0)) a0 1 o1) a0 = 14 from hk), pR_at (show hK (sR (sR (sR h a0 0 (some a0)) a0 1 o1) a0 2 o2) a0 = 14 from hk), pR_at (show hK (sR (sR (sR (sR h a0 0 (some a0)) a0 1 o1) a0 2 o2) a0 1 none) a0 = 14 from hk), pR_at (show hK (sR (sR (sR (sR (sR h a0 0 (some a0)) a0 1 o1) a0 2 o2) a0 1 none) a0 3 a1) a0 = 14 from hk), pR_at (show hK (sR (sR (sR (sR (sR (sR h a0 0 (some a0)) a0 1 o1) a0 2 o2) a0 1 none) a0 3 a1) a0 0 a2) a0 = 14 from hk)]
  refine congrArg some ?_
  simp only [sR_rr, hR_rr, rr_rr]
  refine congrArg (sRR h) ?_
  funext b j
  simp only [up2]
  split <;> rename_i c1 <;> try rfl
  split <;> rename_i c2 <;> try rfl
  split <;> rename_i c3 <;> try rfl
  split <;> rename_i c4 <;> try rfl
  all_goals simp_all
theorem c_E2g (l : Launch) (G : Env0) (h : MHp) (a0 : Nat) (a1 a2 : Option Nat) (a3 a4 : Int32) (res : MHp) (hh : mE2g h a0 a1 a2 a3 a4 = some res) : MG l yE2_init cE2_init 5 none 1 12 0 0 G h [.ref a0, va_rf a1, va_rf a2, .int a3, .int a4] (none) (res) := by
  unfold mE2g at hh
  by_cases c : hK h a0 = 14 ∧ a3 = 0 ∧ a4 = 0
  · rw [if_pos c] at hh
    obtain ⟨hk, rfl, rfl⟩ := c
    cases hh
    exact c_E2_init l G h a0 a1 a2 0 0 _ fun o1 o2 => E2_closed a1 a2 o1 o2 hk
  · rw [if_neg c] at hh; cases hh

/-! reading behind a writing, as equations -/
theorem e_K_sI (h : MHp) (a k : Nat) (v : Int32) : hK (sI h a k v) = hK h := (rfl)
theorem e_N_sI (h : MHp) (a k : Nat) (v : Int32) : hN (sI h a k v) = hN h := (rfl)
theorem e_L_sI (h : MHp) (a k : Nat) (v : Int32) : hL (sI h a k v) = hL h := (rfl)
theorem e_R_sI (h : MHp) (a k : Nat) (v : Int32) : hR (sI h a k v) = hR h := (rfl)
theorem e_AI_sI (h : MHp) (a k : Nat) (v : Int32) : hAI (sI h a k v) = hAI h := (rfl)
theorem e_AL_sI (h : MHp) (a k : Nat) (v : Int32) : hAL (sI h a k v) = hAL h := (rfl)
theorem e_AR_sI (h : MHp) (a k : Nat) (v : Int32) : hAR (sI h a k v) = hAR h := (rfl)
theorem e_S_sI (h : MHp) (a k : Nat) (v : Int32) : hS (sI h a k v) = hS h := (rfl)
theorem e_U_sI (h : MHp) (a k : Nat) (v : Int32) : hU (sI h a k v) = hU h := (rfl)
theorem e_K_sL (h : MHp) (a k : Nat) (v : Int64) : hK (sL h a k v) = hK h := (rfl)
theorem e_N_sL (h : MHp) (a k : Nat) (v : Int64) : hN (sL h a k v) = hN h := (rfl)
theorem e_I_sL (h : MHp) (a k : Nat) (v : Int64) : hI (sL h a k v) = hI h := (rfl)
theorem e_R_sL (h : MHp) (a k : Nat) (v : Int64) : hR (sL h a k v) = hR h := (rfl)
theorem e_AI_sL (h : MHp) (a k : Nat) (v : Int64) : hAI (sL h a k v) = hAI h := (rfl)
theorem e_AL_sL (h : MHp) (a k : Nat) (v : Int64) : hAL (sL h a k v) = hAL h := (rfl)
theorem e_AR_sL (h : MHp) (a k : Nat) (v : Int64) : hAR (sL h a k v) = hAR h := (rfl)
theorem e_S_sL (h : MHp) (a k : Nat) (v : Int64) : hS (sL h a k v) = hS h := (rfl)
theorem e_U_sL (h : MHp) (a k : Nat) (v : Int64) : hU (sL h a k v) = hU h := (rfl)
theorem e_K_sR (h : MHp) (a k : Nat) (v : Option Nat) : hK (sR h a k v) = hK h := (rfl)
theorem e_N_sR (h : MHp) (a k : Nat) (v : Option Nat) : hN (sR h a k v) = hN h := (rfl)
theorem e_I_sR (h : MHp) (a k : Nat) (v : Option Nat) : hI (sR h a k v) = hI h := (rfl)
theorem e_L_sR (h : MHp) (a k : Nat) (v : Option Nat) : hL (sR h a k v) = hL h := (rfl)
theorem e_AI_sR (h : MHp) (a k : Nat) (v : Option Nat) : hAI (sR h a k v) = hAI h := (rfl)
theorem e_AL_sR (h : MHp) (a k : Nat) (v : Option Nat) : hAL (sR h a k v) = hAL h := (rfl)
theorem e_AR_sR (h : MHp) (a k : Nat) (v : Option Nat) : hAR (sR h a k v) = hAR h := (rfl)
theorem e_S_sR (h : MHp) (a k : Nat) (v : Option Nat) : hS (sR h a k v) = hS h := (rfl)
theorem e_U_sR (h : MHp) (a k : Nat) (v : Option Nat) : hU (sR h a k v) = hU h := (rfl)
theorem e_K_sAI (h : MHp) (a : Nat) (v : Nat → Int32) : hK (sAI h a v) = hK h := (rfl)
theorem e_N_sAI (h : MHp) (a : Nat) (v : Nat → Int32) : hN (sAI h a v) = hN h := (rfl)
theorem e_I_sAI (h : MHp) (a : Nat) (v : Nat → Int32) : hI (sAI h a v) = hI h := (rfl)
theorem e_L_sAI (h : MHp) (a : Nat) (v : Nat → Int32) : hL (sAI h a v) = hL h := (rfl)
theorem e_R_sAI (h : MHp) (a : Nat) (v : Nat → Int32) : hR (sAI h a v) = hR h := (rfl)
theorem e_AL_sAI (h : MHp) (a : Nat) (v : Nat → Int32) : hAL (sAI h a v) = hAL h := (rfl)
theorem e_AR_sAI (h : MHp) (a : Nat) (v : Nat → Int32) : hAR (sAI h a v) = hAR h := (rfl)
theorem e_S_sAI (h : MHp) (a : Nat) (v : Nat → Int32) : hS (sAI h a v) = hS h := (rfl)
theorem e_U_sAI (h : MHp) (a : Nat) (v : Nat → Int32) : hU (sAI h a v) = hU h := (rfl)
theorem e_K_sAL (h : MHp) (a : Nat) (v : Nat → Int64) : hK (sAL h a v) = hK h := (rfl)
theorem e_N_sAL (h : MHp) (a : Nat) (v : Nat → Int64) : hN (sAL h a v) = hN h := (rfl)
theorem e_I_sAL (h : MHp) (a : Nat) (v : Nat → Int64) : hI (sAL h a v) = hI h := (rfl)
theorem e_L_sAL (h : MHp) (a : Nat) (v : Nat → Int64) : hL (sAL h a v) = hL h := (rfl)
theorem e_R_sAL (h : MHp) (a : Nat) (v : Nat → Int64) : hR (sAL h a v) = hR h := (rfl)
theorem e_AI_sAL (h : MHp) (a : Nat) (v : Nat → Int64) : hAI (sAL h a v) = hAI h := (rfl)
theorem e_AR_sAL (h : MHp) (a : Nat) (v : Nat → Int64) : hAR (sAL h a v) = hAR h := (rfl)
theorem e_S_sAL (h : MHp) (a : Nat) (v : Nat → Int64) : hS (sAL h a v) = hS h := (rfl)
theorem e_U_sAL (h : MHp) (a : Nat) (v : Nat → Int64) : hU (sAL h a v) = hU h := (rfl)
theorem e_K_sAR (h : MHp) (a : Nat) (v : Nat → Option Nat) : hK (sAR h a v) = hK h := (rfl)
theorem e_N_sAR (h : MHp) (a : Nat) (v : Nat → Option Nat) : hN (sAR h a v) = hN h := (rfl)
theorem e_I_sAR (h : MHp) (a : Nat) (v : Nat → Option Nat) : hI (sAR h a v) = hI h := (rfl)
theorem e_L_sAR (h : MHp) (a : Nat) (v : Nat → Option Nat) : hL (sAR h a v) = hL h := (rfl)
theorem e_R_sAR (h : MHp) (a : Nat) (v : Nat → Option Nat) : hR (sAR h a v) = hR h := (rfl)
theorem e_AI_sAR (h : MHp) (a : Nat) (v : Nat → Option Nat) : hAI (sAR h a v) = hAI h := (rfl)
theorem e_AL_sAR (h : MHp) (a : Nat) (v : Nat → Option Nat) : hAL (sAR h a v) = hAL h := (rfl)
theorem e_S_sAR (h : MHp) (a : Nat) (v : Nat → Option Nat) : hS (sAR h a v) = hS h := (rfl)
theorem e_U_sAR (h : MHp) (a : Nat) (v : Nat → Option Nat) : hU (sAR h a v) = hU h := (rfl)
theorem e_sI (h : MHp) (a k : Nat) (v : Int32) (b j : Nat) : hI (sI h a k v) b j = if b = a ∧ j = k then v else hI h b j := (rfl)
theorem e_sL (h : MHp) (a k : Nat) (v : Int64) (b j : Nat) : hL (sL h a k v) b j = if b = a ∧ j = k then v else hL h b j := (rfl)
theorem e_sR (h : MHp) (a k : Nat) (v : Option Nat) (b j : Nat) : hR (sR h a k v) b j = if b = a ∧ j = k then v else hR h b j := (rfl)
theorem e_sAI (h : MHp) (a : Nat) (v : Nat → Int32) (b : Nat) : hAI (sAI h a v) b = if b = a then v else hAI h b := (rfl)
theorem e_sAL (h : MHp) (a : Nat) (v : Nat → Int64) (b : Nat) : hAL (sAL h a v) b = if b = a then v else hAL h b := (rfl)
theorem e_sAR (h : MHp) (a : Nat) (v : Nat → Option Nat) (b : Nat) : hAR (sAR h a v) b = if b = a then v else hAR h b := (rfl)
theorem e_K_nO (h : MHp) (kd n : Nat) (b : Nat) : hK (nO h kd n) b = if b = hS h then kd else hK h b := (rfl)
theorem e_N_nO (h : MHp) (kd n : Nat) : hN (nO h kd n) = hN h := (rfl)
theorem e_I_nO (h : MHp) (kd n : Nat) (b : Nat) : hI (nO h kd n) b = if b = hS h then fun _ => 0 else hI h b := (rfl)
theorem e_L_nO (h : MHp) (kd n : Nat) (b : Nat) : hL (nO h kd n) b = if b = hS h then fun _ => 0 else hL h b := (rfl)
theorem e_R_nO (h : MHp) (kd n : Nat) (b : Nat) : hR (nO h kd n) b = if b = hS h then fun _ => none else hR h b := (rfl)
theorem e_AI_nO (h : MHp) (kd n : Nat) : hAI (nO h kd n) = hAI h := (rfl)
theorem e_AL_nO (h : MHp) (kd n : Nat) : hAL (nO h kd n) = hAL h := (rfl)
theorem e_AR_nO (h : MHp) (kd n : Nat) : hAR (nO h kd n) = hAR h := (rfl)
theorem e_S_nO (h : MHp) (kd n : Nat) : hS (nO h kd n) = hS h + 1 := (rfl)
theorem e_K_nA (h : MHp) (kd n : Nat) (b : Nat) : hK (nA h kd n) b = if b = hS h then kd else hK h b := (rfl)
theorem e_N_nA (h : MHp) (kd n : Nat) (b : Nat) : hN (nA h kd n) b = if b = hS h then n else hN h b := (rfl)
theorem e_I_nA (h : MHp) (kd n : Nat) : hI (nA h kd n) = hI h := (rfl)
theorem e_L_nA (h : MHp) (kd n : Nat) : hL (nA h kd n) = hL h := (rfl)
theorem e_R_nA (h : MHp) (kd n : Nat) : hR (nA h kd n) = hR h := (rfl)
theorem e_AI_nA (h : MHp) (kd n : Nat) (b : Nat) : hAI (nA h kd n) b = if b = hS h then fun _ => 0 else hAI h b := (rfl)
theorem e_AL_nA (h : MHp) (kd n : Nat) (b : Nat) : hAL (nA h kd n) b = if b = hS h then fun _ => 0 else hAL h b := (rfl)
theorem e_AR_nA (h : MHp) (kd n : Nat) (b : Nat) : hAR (nA h kd n) b = if b = hS h then fun _ => none else hAR h b := (rfl)
theorem e_S_nA (h : MHp) (kd n : Nat) : hS (nA h kd n) = hS h + 1 := (rfl)
theorem e_up {α : Type} (f : Nat → α) (k : Nat) (v : α) (j : Nat) : va_up f k v j = if j = k then v else f j := (rfl)
theorem e_AI2 (h : MHp) (a : Nat) (v w : Nat → Int32) : sAI (sAI h a v) a w = sAI h a w := by
  refine h_ext rfl rfl rfl rfl rfl ?_ rfl rfl rfl rfl
  funext b
  simp only [e_sAI]
  by_cases e : b = a <;> simp [e]
theorem e_AL2 (h : MHp) (a : Nat) (v w : Nat → Int64) : sAL (sAL h a v) a w = sAL h a w := by
  refine h_ext rfl rfl rfl rfl rfl rfl ?_ rfl rfl rfl
  funext b
  simp only [e_sAL]
  by_cases e : b = a <;> simp [e]
theorem e_I2 (h : MHp) (a k : Nat) (v w : Int32) : sI (sI h a k v) a k w = sI h a k w := by
  refine h_ext rfl rfl ?_ rfl rfl rfl rfl rfl rfl rfl
  funext b j
  simp only [e_sI]
  by_cases e : b = a ∧ j = k <;> simp [e]
theorem e_AIself (h : MHp) (a : Nat) : sAI h a (hAI h a) = h := by
  refine h_ext rfl rfl rfl rfl rfl ?_ rfl rfl rfl rfl
  funext b
  simp only [e_sAI]
  by_cases e : b = a <;> simp [e]
theorem e_rcv (kd : Nat) (h : MHp) (a : Nat) : rcv kd h (some a) = if hK h a = kd then some a else none := (rfl)
/-! a step of a program, as an equation; none of them by unfolding alone, so that the kernel never has to find the way itself -/
theorem o_bind {α β : Type} (a : α) (f : α → Option β) : (some a).bind f = f a := (rfl)
theorem o_map {α β : Type} (a : α) (f : α → β) : (some a).map f = some (f a) := (rfl)
theorem b_rcv {β : Type} (kd : Nat) (h : MHp) (a : Nat) (f : Nat → Option β) : (rcv kd h (some a)).bind f = if hK h a = kd then f a else none := by
  rw [e_rcv]
  by_cases e : hK h a = kd
  · rw [if_pos e, if_pos e, o_bind]
  · rw [if_neg e, if_neg e]; exact (rfl)
theorem b_map {α β γ : Type} (o : Option α) (g : α → β) (f : β → Option γ) : (o.map g).bind f = o.bind fun a => f (g a) := by
  cases o with
  | none => exact (rfl)
  | some a => rw [o_map, o_bind, o_bind]
theorem b_bind {α β γ : Type} (o : Option α) (g : α → Option β) (f : β → Option γ) : (o.bind g).bind f = o.bind fun a => (g a).bind f := by
  cases o with
  | none => exact (rfl)
  | some a => rw [o_bind, o_bind]
theorem b_gI {β : Type} (kd k : Nat) (h : MHp) (a : Nat) (f : Int32 → Option β) : (gI kd k h (some a)).bind f = if hK h a = kd then f (hI h a k) else none := by
  unfold gI; rw [b_map, b_rcv]
theorem b_gL {β : Type} (kd k : Nat) (h : MHp) (a : Nat) (f : Int64 → Option β) : (gL kd k h (some a)).bind f = if hK h a = kd then f (hL h a k) else none := by
  unfold gL; rw [b_map, b_rcv]
theorem b_gR {β : Type} (kd k : Nat) (h : MHp) (a : Nat) (f : Option Nat → Option β) : (gR kd k h (some a)).bind f = if hK h a = kd then f (hR h a k) else none := by
  unfold gR; rw [b_map, b_rcv]
theorem b_gN {β : Type} (kd : Nat) (h : MHp) (a : Nat) (f : Int32 → Option β) : (gN kd h (some a)).bind f = if hK h a = kd then f (Int32.ofNat (hN h a)) else none := by
  unfold gN; rw [b_map, b_rcv]
theorem b_pI {β : Type} (kd k : Nat) (h : MHp) (a : Nat) (v : Int32) (f : MHp → Option β) : (pI kd k h (some a) v).bind f = if hK h a = kd then f (sI h a k v) else none := by
  unfold pI; rw [b_map, b_rcv]
theorem b_pL {β : Type} (kd k : Nat) (h : MHp) (a : Nat) (v : Int64) (f : MHp → Option β) : (pL kd k h (some a) v).bind f = if hK h a = kd then f (sL h a k v) else none := by
  unfold pL; rw [b_map, b_rcv]
theorem b_pR {β : Type} (kd k : Nat) (h : MHp) (a : Nat) (v : Option Nat) (f : MHp → Option β) : (pR kd k h (some a) v).bind f = if hK h a = kd then f (sR h a k v) else none := by
  unfold pR; rw [b_map, b_rcv]
/-- an index that is none -/
def bad (i : Int32) (n : Nat) : Bool := decide (i < 0) || decide (n ≤ i.toNatClampNeg)
theorem bad_iff (i : Int32) (n : Nat) : bad i n = true ↔ i < 0 ∨ n ≤ i.toNatClampNeg := by
  simp only [bad, Bool.or_eq_true, decide_eq_true_eq]
theorem b_inA {β : Type} (kd : Nat) (h : MHp) (a : Nat) (i : Int32) (f : Nat → Option β) : (inA kd h (some a) i).bind f = if hK h a = kd then (if bad i (hN h a) = true then none else f a) else none := by
  unfold inA
  rw [b_bind, b_rcv]
  by_cases e : hK h a = kd
  · rw [if_pos e, if_pos e]
    by_cases e2 : bad i (hN h a) = true
    · rw [if_pos e2]
      rw [bad_iff] at e2
      rw [if_pos e2]; exact (rfl)
    · rw [if_neg e2]
      rw [bad_iff] at e2
      rw [if_neg e2, o_bind]
  · rw [if_neg e, if_neg e]
theorem b_gAI {β : Type} (kd : Nat) (h : MHp) (a : Nat) (i : Int32) (f : Int32 → Option β) : (gAI kd h (some a) i).bind f = if hK h a = kd then (if bad i (hN h a) = true then none else f (hAI h a i.toNatClampNeg)) else none := by
  unfold gAI; rw [b_map, b_inA]
theorem b_gAL {β : Type} (kd : Nat) (h : MHp) (a : Nat) (i : Int32) (f : Int64 → Option β) : (gAL kd h (some a) i).bind f = if hK h a = kd then (if bad i (hN h a) = true then none else f (hAL h a i.toNatClampNeg)) else none := by
  unfold gAL; rw [b_map, b_inA]
theorem b_gAR {β : Type} (kd : Nat) (h : MHp) (a : Nat) (i : Int32) (f : Option Nat → Option β) : (gAR kd h (some a) i).bind f = if hK h a = kd then (if bad i (hN h a) = true then none else f (hAR h a i.toNatClampNeg)) else none := by
  unfold gAR; rw [b_map, b_inA]
theorem b_pAI {β : Type} (kd : Nat) (h : MHp) (a : Nat) (i v : Int32) (f : MHp → Option β) : (pAI kd h (some a) i v).bind f = if hK h a = kd then (if bad i (hN h a) = true then none else f (sAI h a (va_up (hAI h a) i.toNatClampNeg v))) else none := by
  unfold pAI; rw [b_map, b_inA]
theorem b_pAL {β : Type} (kd : Nat) (h : MHp) (a : Nat) (i : Int32) (v : Int64) (f : MHp → Option β) : (pAL kd h (some a) i v).bind f = if hK h a = kd then (if bad i (hN h a) = true then none else f (sAL h a (va_up (hAL h a) i.toNatClampNeg v))) else none := by
  unfold pAL; rw [b_map, b_inA]
theorem bad_of {k n : Nat} (h : k < n) (hn : n ≤ 100000) : bad (Int32.ofNat k) n = false := by
  rw [← Bool.not_eq_true, bad_iff, Int32.toNatClampNeg_ofNat_of_lt (by omega), Int32.lt_iff_toInt_lt, Int32.toInt_ofNat_of_lt (by omega)]
  have : (0 : Int32).toInt = 0 := rfl
  rw [this]
  omega
theorem bad_l {k n : Nat} (h : k < n) (hn : n ≤ 100000) : bad (no_index (OfNat.ofNat k)) n = false := bad_of h hn
/-! an index in a row -/
theorem ix_of {k n : Nat} (h : k < n) (hn : n ≤ 100000) : (Int32.ofNat k < 0 ∨ n ≤ (Int32.ofNat k).toNatClampNeg) = False := by
  have h1 : (Int32.ofNat k).toNatClampNeg = k := Int32.toNatClampNeg_ofNat_of_lt (by omega)
  have h2 : ¬ Int32.ofNat k < 0 := by
    rw [Int32.lt_iff_toInt_lt, Int32.toInt_ofNat_of_lt (by omega)]
    simp
  rw [h1]
  simp [h2]
  omega
theorem cl_of {k : Nat} (h : k < 2147483648) : (Int32.ofNat k).toNatClampNeg = k := Int32.toNatClampNeg_ofNat_of_lt h
theorem lt_of {k n : Nat} (hk : k < 2147483648) (hn : n < 2147483648) : (Int32.ofNat k < Int32.ofNat n) = (k < n) := by
  rw [Int32.lt_iff_toInt_lt, Int32.toInt_ofNat_of_lt hk, Int32.toInt_ofNat_of_lt hn]
  simp
theorem le_of {k n : Nat} (hk : k < 2147483648) (hn : n < 2147483648) : (Int32.ofNat k ≤ Int32.ofNat n) = (k ≤ n) := by
  rw [Int32.le_iff_toInt_le, Int32.toInt_ofNat_of_lt hk, Int32.toInt_ofNat_of_lt hn]
  simp
theorem eq_of {k n : Nat} (hk : k < 2147483648) (hn : n < 2147483648) : (Int32.ofNat k = Int32.ofNat n) = (k = n) := by
  apply propext
  constructor
  · intro h
    have := congrArg Int32.toNatClampNeg h
    rwa [cl_of hk, cl_of hn] at this
  · intro h; rw [h]
theorem nn_of {k : Nat} (hk : k < 2147483648) : (Int32.ofNat k < 0) = False := by
  have := lt_of hk (n := 0) (by decide)
  rw [show (0 : Int32) = Int32.ofNat 0 from rfl, this]
  simp
theorem s1_of (k : Nat) : Int32.ofNat k + 1 = Int32.ofNat (k + 1) := by
  rw [Int32.ofNat_add]; rfl
/-- an int that isn't below 0 is a number -/
theorem ex_of {x : Int32} (h : ¬ x < 0) : ∃ k : Nat, x = Int32.ofNat k ∧ k < 2147483648 := by
  refine ⟨x.toNatClampNeg, ?_, Int32.toNatClampNeg_lt x⟩
  rw [Int32.lt_iff_toInt_lt] at h
  apply Int32.toInt_inj.mp
  rw [Int32.toInt_ofNat_of_lt (Int32.toNatClampNeg_lt x)]
  have : (0 : Int32).toInt = 0 := rfl
  rw [this] at h
  show x.toInt = ((x.toInt.toNat : Nat) : Int)
  omega

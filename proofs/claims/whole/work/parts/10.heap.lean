/-! The heap as numbers: of each address its kind (0 none of ours, 1 .. 17 objects by class, 20 .. 27 arrays), its length, its fields and its row. -/
def MHp : Type := (Nat → Nat) × (Nat → Nat) × (Nat → Nat → Int32) × (Nat → Nat → Int64) × (Nat → Nat → Option Nat) × (Nat → Nat → Int32) × (Nat → Nat → Int64) × (Nat → Nat → Option Nat) × Nat × Nat
def hK (h : MHp) : Nat → Nat := h.1
def hN (h : MHp) : Nat → Nat := h.2.1
def hI (h : MHp) : Nat → Nat → Int32 := h.2.2.1
def hL (h : MHp) : Nat → Nat → Int64 := h.2.2.2.1
def hR (h : MHp) : Nat → Nat → Option Nat := h.2.2.2.2.1
def hAI (h : MHp) : Nat → Nat → Int32 := h.2.2.2.2.2.1
def hAL (h : MHp) : Nat → Nat → Int64 := h.2.2.2.2.2.2.1
def hAR (h : MHp) : Nat → Nat → Option Nat := h.2.2.2.2.2.2.2.1
def hS (h : MHp) : Nat := h.2.2.2.2.2.2.2.2.1
def hU (h : MHp) : Nat := h.2.2.2.2.2.2.2.2.2
def mkH (K N : Nat → Nat) (I : Nat → Nat → Int32) (L : Nat → Nat → Int64) (R : Nat → Nat → Option Nat) (AI : Nat → Nat → Int32) (AL : Nat → Nat → Int64) (AR : Nat → Nat → Option Nat) (S U : Nat) : MHp := (K, N, I, L, R, AI, AL, AR, S, U)
def up2 {α : Type} (f : Nat → Nat → α) (a k : Nat) (v : α) : Nat → Nat → α := fun b j => if b = a ∧ j = k then v else f b j
def sI (h : MHp) (a k : Nat) (v : Int32) : MHp := mkH (hK h) (hN h) (up2 (hI h) a k v) (hL h) (hR h) (hAI h) (hAL h) (hAR h) (hS h) (hU h)
def sL (h : MHp) (a k : Nat) (v : Int64) : MHp := mkH (hK h) (hN h) (hI h) (up2 (hL h) a k v) (hR h) (hAI h) (hAL h) (hAR h) (hS h) (hU h)
def sR (h : MHp) (a k : Nat) (v : Option Nat) : MHp := mkH (hK h) (hN h) (hI h) (hL h) (up2 (hR h) a k v) (hAI h) (hAL h) (hAR h) (hS h) (hU h)
def sAI (h : MHp) (a : Nat) (v : Nat → Int32) : MHp := mkH (hK h) (hN h) (hI h) (hL h) (hR h) (va_up (hAI h) a v) (hAL h) (hAR h) (hS h) (hU h)
def sAL (h : MHp) (a : Nat) (v : Nat → Int64) : MHp := mkH (hK h) (hN h) (hI h) (hL h) (hR h) (hAI h) (va_up (hAL h) a v) (hAR h) (hS h) (hU h)
def sAR (h : MHp) (a : Nat) (v : Nat → Option Nat) : MHp := mkH (hK h) (hN h) (hI h) (hL h) (hR h) (hAI h) (hAL h) (va_up (hAR h) a v) (hS h) (hU h)
/-- a new object of kind kd with n fields, at the heap's end -/
def nO (h : MHp) (kd n : Nat) : MHp := mkH (va_up (hK h) (hS h) kd) (hN h) (va_up (hI h) (hS h) (fun _ => 0)) (va_up (hL h) (hS h) (fun _ => 0)) (va_up (hR h) (hS h) (fun _ => none)) (hAI h) (hAL h) (hAR h) (hS h + 1) (hU h + n)
/-- a new array of kind kd and length n -/
def nA (h : MHp) (kd n : Nat) : MHp := mkH (va_up (hK h) (hS h) kd) (va_up (hN h) (hS h) n) (hI h) (hL h) (hR h) (va_up (hAI h) (hS h) (fun _ => 0)) (va_up (hAL h) (hS h) (fun _ => 0)) (va_up (hAR h) (hS h) (fun _ => none)) (hS h + 1) (hU h + n)
/-! what a program does with it; none: the machine itself would throw, or the kind isn't the one that is told -/
def rcv (kd : Nat) (h : MHp) : Option Nat → Option Nat
  | some a => if hK h a = kd then some a else none
  | none => none
def gI (kd k : Nat) (h : MHp) (o : Option Nat) : Option Int32 := (rcv kd h o).map fun a => hI h a k
def gL (kd k : Nat) (h : MHp) (o : Option Nat) : Option Int64 := (rcv kd h o).map fun a => hL h a k
def gR (kd k : Nat) (h : MHp) (o : Option Nat) : Option (Option Nat) := (rcv kd h o).map fun a => hR h a k
def pI (kd k : Nat) (h : MHp) (o : Option Nat) (v : Int32) : Option MHp := (rcv kd h o).map fun a => sI h a k v
def pL (kd k : Nat) (h : MHp) (o : Option Nat) (v : Int64) : Option MHp := (rcv kd h o).map fun a => sL h a k v
def pR (kd k : Nat) (h : MHp) (o : Option Nat) (v : Option Nat) : Option MHp := (rcv kd h o).map fun a => sR h a k v
def gN (kd : Nat) (h : MHp) (o : Option Nat) : Option Int32 := (rcv kd h o).map fun a => Int32.ofNat (hN h a)
/-- the place of an index, if it is one -/
def inA (kd : Nat) (h : MHp) (o : Option Nat) (i : Int32) : Option Nat := (rcv kd h o).bind fun a => if i < 0 ∨ hN h a ≤ i.toNatClampNeg then none else some a
def gAI (kd : Nat) (h : MHp) (o : Option Nat) (i : Int32) : Option Int32 := (inA kd h o i).map fun a => hAI h a i.toNatClampNeg
def gAL (kd : Nat) (h : MHp) (o : Option Nat) (i : Int32) : Option Int64 := (inA kd h o i).map fun a => hAL h a i.toNatClampNeg
def gAR (kd : Nat) (h : MHp) (o : Option Nat) (i : Int32) : Option (Option Nat) := (inA kd h o i).map fun a => hAR h a i.toNatClampNeg
def pAI (kd : Nat) (h : MHp) (o : Option Nat) (i : Int32) (v : Int32) : Option MHp := (inA kd h o i).map fun a => sAI h a (va_up (hAI h a) i.toNatClampNeg v)
def pAL (kd : Nat) (h : MHp) (o : Option Nat) (i : Int32) (v : Int64) : Option MHp := (inA kd h o i).map fun a => sAL h a (va_up (hAL h a) i.toNatClampNeg v)
def pAR (kd kv : Nat) (h : MHp) (o : Option Nat) (i : Int32) (v : Option Nat) : Option MHp := (inA kd h o i).bind fun a => (rcv kv h v).map fun b => sAR h a (va_up (hAR h a) i.toNatClampNeg (some b))
/-- a stretch of a row of ints goes into another one -/
def cpI (kd : Nat) (h : MHp) (o : Option Nat) (sp : Int32) (q : Option Nat) (dp n : Int32) : Option MHp := (rcv kd h o).bind fun a => (rcv kd h q).bind fun b => if sp < 0 ∨ dp < 0 ∨ n < 0 ∨ hN h a < sp.toNatClampNeg + n.toNatClampNeg ∨ hN h b < dp.toNatClampNeg + n.toNatClampNeg then none else some (sAI h b (va_cpy (hAI h a) (hAI h b) sp.toNatClampNeg dp.toNatClampNeg n.toNatClampNeg))
/-- a new array: a length below 0, or over what the machine bears, is none -/
def nAo (kd w : Nat) (h : MHp) (n : Int32) : Option MHp := if n < 0 ∨ 536870912 < n.toNatClampNeg * w then none else some (nA h kd n.toNatClampNeg)
def rB (v : Int32) : Option Int32 := if v = 0 ∨ v = 1 then some v else none
def nz (v : Int32) : Option Unit := if v = 0 then none else some ()
def nzL (v : Int64) : Option Unit := if v = 0 then none else some ()
/-! reading behind a writing -/
theorem h_ext {a b : MHp} (h1 : hK a = hK b) (h2 : hN a = hN b) (h3 : hI a = hI b) (h4 : hL a = hL b) (h5 : hR a = hR b) (h6 : hAI a = hAI b) (h7 : hAL a = hAL b) (h8 : hAR a = hAR b) (h9 : hS a = hS b) (h10 : hU a = hU b) : a = b := by
  obtain ⟨a1, a2, a3, a4, a5, a6, a7, a8, a9, a10⟩ := a
  obtain ⟨b1, b2, b3, b4, b5, b6, b7, b8, b9, b10⟩ := b
  simp only [hK, hN, hI, hL, hR, hAI, hAL, hAR, hS, hU] at h1 h2 h3 h4 h5 h6 h7 h8 h9 h10
  subst h1; subst h2; subst h3; subst h4; subst h5; subst h6; subst h7; subst h8; subst h9; subst h10; rfl
theorem up2_self {α : Type} (f : Nat → Nat → α) (a k : Nat) (v : α) : up2 f a k v a k = v := by simp [up2]
theorem up2_row {α : Type} (f : Nat → Nat → α) {a b : Nat} (k : Nat) (v : α) (h : b ≠ a) : up2 f a k v b = f b := by funext j; simp [up2, h]
theorem up2_in {α : Type} (f : Nat → Nat → α) (a k : Nat) (v : α) (j : Nat) : up2 f a k v a j = if j = k then v else f a j := by simp [up2]
/-! what the heap of numbers says of the machine's heap -/
def slT : Nat → List Nat
  | 1 => [2, 0, 1, 1, 2, 2, 2]
  | 2 => [2, 2, 2, 2, 0, 0, 0]
  | 3 => [2, 2]
  | 4 => [2, 2, 2, 2, 2, 2, 0, 0]
  | 5 => [0, 2, 0]
  | 6 => [2, 0, 2, 2, 2, 2, 2, 2]
  | 7 => [2, 2, 0, 0, 0, 0]
  | 8 => [2, 2, 2, 0, 0, 0, 0, 0]
  | 9 => [2, 0, 0, 0, 0, 0, 0, 1, 2]
  | 10 => [2, 2, 2, 2, 2, 2, 0, 0, 2, 2, 2, 2]
  | 11 => [2, 2, 2, 0, 0]
  | 12 => [2, 2, 2, 2, 2, 2, 2, 2, 2, 2, 2, 2, 2, 0, 0, 0]
  | 13 => [0, 0, 2, 2, 2, 2]
  | 14 => [2, 2, 2, 2, 2, 0, 0, 0]
  | 15 => [0, 0, 0, 2, 2, 2, 2]
  | 16 => [0, 2, 2, 2, 2]
  | 17 => [0, 0, 0, 0, 2, 2, 2, 0, 2, 2, 0, 0, 0, 0, 0, 0, 0, 1, 0, 0, 2, 2, 2, 2, 2, 2, 2, 2, 2, 2, 2, 2, 0, 2, 0, 2, 2, 0, 0, 0, 0, 0, 2, 2, 2, 0, 0, 2, 2, 0, 2]
  | _ => []
def mV (t : Nat) (h : MHp) (a j : Nat) : Value := match t with
  | 0 => .int (hI h a j)
  | 1 => .long (hL h a j)
  | _ => va_rf (hR h a j)
def mFs : List Nat → Nat → MHp → Nat → List Value
  | [], _, _, _ => []
  | t :: ts, j, h, a => mV t h a j :: mFs ts (j + 1) h a
theorem mFs_len : ∀ (ts : List Nat) (j : Nat) (h : MHp) (a : Nat), (mFs ts j h a).length = ts.length
  | [], _, _, _ => rfl
  | _ :: ts, j, h, a => by show (mFs ts (j + 1) h a).length + 1 = ts.length + 1; rw [mFs_len ts]
theorem mFs_get : ∀ (ts : List Nat) (j : Nat) (h : MHp) (a k : Nat), (mFs ts j h a)[k]? = (ts[k]?).map fun t => mV t h a (j + k)
  | [], j, h, a, k => by simp [mFs]
  | t :: ts, j, h, a, 0 => by simp [mFs]
  | t :: ts, j, h, a, k + 1 => by
    show (mFs ts (j + 1) h a)[k]? = _
    rw [mFs_get ts (j + 1) h a k, show j + 1 + k = j + (k + 1) by omega]
    simp
theorem mFs_ext {ts : List Nat} {h h' : MHp} {a k t : Nat} {v : Value} (ht : ts[k]? = some t) (hv : mV t h' a k = v) (ho : ∀ (j t : Nat), j ≠ k → mV t h' a j = mV t h a j) : mFs ts 0 h' a = (mFs ts 0 h a).set k v := by
  apply List.ext_getElem?
  intro j
  rw [List.getElem?_set, mFs_get, mFs_get, mFs_len]
  by_cases hj : k = j
  · subst hj
    have hl : k < ts.length := (List.getElem?_eq_some_iff.mp ht).1
    rw [if_pos rfl, if_pos hl, ht, Option.map_some, Nat.zero_add, hv]
  · rw [if_neg hj]
    simp only [Nat.zero_add]
    cases ts[j]? with
    | none => rfl
    | some t => simp [ho j t (Ne.symm hj)]
def mAr (h : MHp) (a : Nat) : Nat → vp_A
  | 21 => (hN h a, .inr (.inl (hAL h a)))
  | 20 => (hN h a, .inl (hAI h a))
  | 22 => (hN h a, .inl (hAI h a))
  | 23 => (hN h a, .inl (hAI h a))
  | _ => (hN h a, .inr (.inr (.inr (.inr (hAR h a)))))
def mE (cs : Nat → ClassId) (h : MHp) (a : Nat) : va_E := if hK h a < 20 then .inr (hK h a - 1, mFs (slT (hK h a)) 0 h a) else .inl (cs (hK h a), mAr h a (hK h a))
def mHp (D : va_G) (cs : Nat → ClassId) (b0 : Nat) (h : MHp) (H : Heap) : Prop := H.size = hS h ∧ b0 ≤ H.size ∧ ∀ a, hK h a ≠ 0 → b0 ≤ a ∧ va_at D vwCl (a, mE cs h a) H
theorem mE_obj {cs : Nat → ClassId} {h : MHp} {a kd : Nat} (hk : hK h a = kd) (hd : kd < 20) : mE cs h a = .inr (kd - 1, mFs (slT kd) 0 h a) := by simp [mE, hk, hd]
theorem mE_arr {cs : Nat → ClassId} {h : MHp} {a kd : Nat} (hk : hK h a = kd) (hd : 20 ≤ kd) : mE cs h a = .inl (cs kd, mAr h a kd) := by simp [mE, hk, Nat.not_lt.mpr hd]
theorem mP1 {D : va_G} {cs : Nat → ClassId} {b0 : Nat} {h : MHp} {H : Heap} (hm : mHp D cs b0 h H) {a : Nat} (hk : hK h a ≠ 0) : va_P D vwCl [(a, mE cs h a)] H := by
  intro k q hq
  have hz : k < 1 := (List.getElem?_eq_some_iff.mp hq).1
  rw [show k = 0 by omega] at hq
  cases hq
  exact (hm.2.2 a hk).2
/-- one cell is written, all others stay -/
theorem mHp_set {D : va_G} {cs : Nat → ClassId} {b0 : Nat} {h h' : MHp} {H H' : Heap} (hm : mHp D cs b0 h H) {a : Nat} (ha : hK h a ≠ 0) (hk : hK h' = hK h) (hs : hS h' = hS h) (z : H'.size = H.size) (oq : ∀ q : Nat, q ≠ a → H'[q]? = H[q]?) (ho : ∀ b, b ≠ a → mE cs h' b = mE cs h b) (he : va_at D vwCl (a, mE cs h' a) H') : mHp D cs b0 h' H' := by
  refine ⟨by rw [z, hs]; exact hm.1, by rw [z]; exact hm.2.1, fun b hb => ?_⟩
  rw [hk] at hb
  by_cases e : b = a
  · subst e
    exact ⟨(hm.2.2 b hb).1, he⟩
  · rw [ho b e]
    exact ⟨(hm.2.2 b hb).1, (hm.2.2 b hb).2.kept (oq b e)⟩
theorem rcv_some {kd : Nat} {h : MHp} {o : Option Nat} {a : Nat} (e : rcv kd h o = some a) : o = some a ∧ hK h a = kd := by
  cases o with
  | none => cases e
  | some b =>
    by_cases hk : hK h b = kd
    · simp only [rcv, if_pos hk] at e
      cases e
      exact ⟨rfl, hk⟩
    · simp only [rcv, if_neg hk] at e
      cases e
theorem inA_some {kd : Nat} {h : MHp} {o : Option Nat} {i : Int32} {a : Nat} (e : inA kd h o i = some a) : o = some a ∧ hK h a = kd ∧ vp_in i (hN h a) := by
  unfold inA at e
  cases hr : rcv kd h o with
  | none => rw [hr] at e; cases e
  | some b =>
    rw [hr, Option.bind_some] at e
    obtain ⟨h1, h2⟩ := rcv_some hr
    split at e
    · cases e
    · cases e
      exact ⟨h1, h2, by assumption⟩

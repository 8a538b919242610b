/-! a call on both sides -/
def CS {α : Type} (c : Nat) (h : MHp) (M : Option (α × MHp)) (v : α) (A' : AS) : Prop := ∃ h' : MHp, M = some (v, h') ∧ CR c h' A' ∧ Oc c h h'
def RS {α : Type} (m : Nat) (h : MHp) (M : Option (α × MHp)) (v : α) (A' : AS) : Prop := ∃ h' : MHp, M = some (v, h') ∧ RR m h' A' ∧ Om m h h'
def XS {α : Type} (c m : Nat) (h : MHp) (A : AS) (F : Option (α × MHp)) (G : MHp → Option (α × MHp)) : Prop := ∃ (v : α) (A' : AS), WA A' ∧ CS c h F v A' ∧ ∀ h1 : MHp, RR m h1 A → RS m h1 (G h1) v A'
def XS0 {α : Type} (m : Nat) (A : AS) (F : Option α) (G : MHp → Option (α × MHp)) : Prop := ∃ v : α, F = some v ∧ ∀ h1 : MHp, RR m h1 A → RS m h1 (G h1) v A
theorem n10 : ¬ ((1 : Int32) = 0) := by decide
theorem n20 : ¬ ((2 : Int32) = 0) := by decide
theorem n30 : ¬ ((3 : Int32) = 0) := by decide
theorem n40 : ¬ ((4 : Int32) = 0) := by decide
theorem n50 : ¬ ((5 : Int32) = 0) := by decide
theorem n60 : ¬ ((6 : Int32) = 0) := by decide
theorem e_Iself (h : MHp) (a k : Nat) (v : Int32) : hI (sI h a k v) a k = v := by rw [e_sI, if_pos ⟨rfl, rfl⟩]
theorem rB1 : rB 1 = some 1 := rfl
theorem rB0 : rB 0 = some 0 := rfl
theorem rng (a : Int32) (n : Nat) : (∃ r : Nat, r < n ∧ a = Int32.ofNat r) ∨ ∀ r : Nat, r < n → a ≠ Int32.ofNat r := by
  by_cases e : ∃ r : Nat, r < n ∧ a = Int32.ofNat r
  · exact Or.inl e
  · exact Or.inr (fun r h1 h2 => e ⟨r, h1, h2⟩)
theorem p_within (h : MHp) (v a b : Int32) : mX11_isWithin h v a b = some (if a ≤ v ∧ v ≤ b then 1 else 0) := by
  unfold mX11_isWithin
  by_cases h1 : v < a
  · simp [h1, le_y h1]
  · by_cases h2 : b < v
    · simp [h1, h2, le_y h2]
    · simp [h1, h2, le_n h1, le_n h2]
theorem q_in (h : MHp) (v a b : Int32) : mX16_in h v a b = some (if a ≤ v ∧ v ≤ b then 1 else 0) := by
  unfold mX16_in
  by_cases h1 : v < a
  · simp [h1, le_y h1]
  · by_cases h2 : b < v
    · simp [h1, h2, le_y h2]
    · simp [h1, h2, le_n h1, le_n h2]
theorem q_isRow1 {m n r : Nat} {h : MHp} (L : QL m h) (e : hI h m 18 = Int32.ofNat n) (hn : n ≤ 60) (hr : r < n) : mX16_isRow h m (Int32.ofNat r) = some 1 := by
  simp (disch := first | assumption | omega | (simp (disch := omega) only [Int32.lt_iff_toInt_lt, Int32.le_iff_toInt_le, ← Int32.toInt_inj, ti_of, Int32.reduceToInt]; omega)) only [mX16_isRow, qK0 L, e, o_bind, o_map, b_rcv, b_gI, b_gL, b_gR, b_gN, b_pI, b_pL, b_pR, b_gAI, b_gAL, b_gAR, b_pAI, b_pAL, bad_of, bad_l, Bool.false_eq_true, ↓reduceIte, Int32.reduceLT, Int32.reduceLE, Int32.reduceToNatClampNeg, Int32.reduceOfNat, Int32.reduceAdd, Int32.reduceSub, Int32.reduceMul, Nat.reduceAdd, Nat.reduceMul, Nat.reduceEqDiff, if_pos, if_neg]
theorem q_isRow0 {m n : Nat} {a : Int32} {h : MHp} (L : QL m h) (e : hI h m 18 = Int32.ofNat n) (hn : n ≤ 60) (ha : ∀ r : Nat, r < n → a ≠ Int32.ofNat r) : mX16_isRow h m a = some 0 := by
  by_cases h1 : a < 0
  · simp only [mX16_isRow, if_pos h1]
  · obtain ⟨k, rfl, hk⟩ := ex_of h1
    have h2 : n ≤ k := Nat.le_of_not_lt (fun h => ha k h rfl)
    simp (disch := first | assumption | omega | (simp (disch := omega) only [Int32.lt_iff_toInt_lt, Int32.le_iff_toInt_le, ← Int32.toInt_inj, ti_of, Int32.reduceToInt]; omega)) only [mX16_isRow, qK0 L, e, o_bind, o_map, b_rcv, b_gI, b_gL, b_gR, b_gN, b_pI, b_pL, b_pR, b_gAI, b_gAL, b_gAR, b_pAI, b_pAL, bad_of, bad_l, Bool.false_eq_true, ↓reduceIte, Int32.reduceLT, Int32.reduceLE, Int32.reduceToNatClampNeg, Int32.reduceOfNat, Int32.reduceAdd, Int32.reduceSub, Int32.reduceMul, Nat.reduceAdd, Nat.reduceMul, Nat.reduceEqDiff, if_pos, if_neg]
/-- the reference says first that nothing is thrown -/
theorem RR.th {m : Nat} {h : MHp} {A : AS} (v : Int32) (C : RR m h A) : RR m (sI h m 0 v) A := C.sc (Rs.I 0 v (by decide))
theorem Om.th {m : Nat} {h : MHp} (v : Int32) : Om m h (sI h m 0 v) := Om.I 0 v
/-! readers -/
theorem x_fault {c m : Nat} {h : MHp} {A : AS} (C : CR c h A) : XS0 m A (mX11_fault h c) (fun h1 => mX16_fault h1 m) := by
  obtain ⟨⟨b, s, L, -⟩, y, -⟩ := C
  refine ⟨aS A 1, ?_, fun h1 R => ⟨_, ?_, R.th 0, Om.th 0⟩⟩
  · have e := y.2.2.2.1
    simp (disch := omega) only [mX11_fault, lK0 L, lR0_1 L, lK55 L, e, o_bind, o_map, b_rcv, b_gI, b_gL, b_gR, b_gN, b_pI, b_pL, b_pR, b_gAI, b_gAL, b_gAR, b_pAI, b_pAL, bad_of, bad_l, Bool.false_eq_true, ↓reduceIte, Int32.reduceLT, Int32.reduceLE, Int32.reduceToNatClampNeg, Int32.reduceOfNat, Int32.reduceAdd, Int32.reduceSub, Int32.reduceMul, Nat.reduceAdd, Nat.reduceMul, Nat.reduceEqDiff]
  · have M := R.1.1
    have e := (R.th 0).2.1.2.2.2.2.2.1
    simp (disch := omega) only [mX16_fault, qK0 M, e_K_sI, e, o_bind, o_map, b_rcv, b_gI, b_gL, b_gR, b_gN, b_pI, b_pL, b_pR, b_gAI, b_gAL, b_gAR, b_pAI, b_pAL, bad_of, bad_l, Bool.false_eq_true, ↓reduceIte, Int32.reduceLT, Int32.reduceLE, Int32.reduceToNatClampNeg, Int32.reduceOfNat, Int32.reduceAdd, Int32.reduceSub, Int32.reduceMul, Nat.reduceAdd, Nat.reduceMul, Nat.reduceEqDiff]
theorem x_where {c m : Nat} {h : MHp} {A : AS} (C : CR c h A) : XS0 m A (mX11_where h c) (fun h1 => mX16_where h1 m) := by
  obtain ⟨⟨b, s, L, -⟩, y, -⟩ := C
  refine ⟨if aS A 0 = 4 then aS A 2 else -1, ?_, fun h1 R => ⟨_, ?_, R.th 0, Om.th 0⟩⟩
  · have e := y.2.2.1
    have e2 := y.2.2.2.2.1
    by_cases g : aS A 0 = 4
    · have e3 := e2 g
      simp (disch := omega) only [mX11_where, lK0 L, lR0_1 L, lK55 L, e, g, e3, o_bind, o_map, b_rcv, b_gI, b_gL, b_gR, b_gN, b_pI, b_pL, b_pR, b_gAI, b_gAL, b_gAR, b_pAI, b_pAL, bad_of, bad_l, Bool.false_eq_true, ↓reduceIte, Int32.reduceLT, Int32.reduceLE, Int32.reduceToNatClampNeg, Int32.reduceOfNat, Int32.reduceAdd, Int32.reduceSub, Int32.reduceMul, Nat.reduceAdd, Nat.reduceMul, Nat.reduceEqDiff]
    · simp (disch := omega) only [mX11_where, lK0 L, lR0_1 L, lK55 L, e, g, o_bind, o_map, b_rcv, b_gI, b_gL, b_gR, b_gN, b_pI, b_pL, b_pR, b_gAI, b_gAL, b_gAR, b_pAI, b_pAL, bad_of, bad_l, Bool.false_eq_true, ↓reduceIte, Int32.reduceLT, Int32.reduceLE, Int32.reduceToNatClampNeg, Int32.reduceOfNat, Int32.reduceAdd, Int32.reduceSub, Int32.reduceMul, Nat.reduceAdd, Nat.reduceMul, Nat.reduceEqDiff]
  · have M := R.1.1
    have e := (R.th 0).2.1.2.2.2.2.2.2.1
    simp (disch := omega) only [mX16_where, qK0 M, e_K_sI, e, o_bind, o_map, b_rcv, b_gI, b_gL, b_gR, b_gN, b_pI, b_pL, b_pR, b_gAI, b_gAL, b_gAR, b_pAI, b_pAL, bad_of, bad_l, Bool.false_eq_true, ↓reduceIte, Int32.reduceLT, Int32.reduceLE, Int32.reduceToNatClampNeg, Int32.reduceOfNat, Int32.reduceAdd, Int32.reduceSub, Int32.reduceMul, Nat.reduceAdd, Nat.reduceMul, Nat.reduceEqDiff]
theorem x_giver {c m : Nat} {h : MHp} {A : AS} (C : CR c h A) : XS0 m A (mX11_giver h c) (fun h1 => mX16_giver h1 m) := by
  obtain ⟨⟨b, s, L, -⟩, y, -⟩ := C
  refine ⟨aS A 4, ?_, fun h1 R => ⟨_, ?_, R.th 0, Om.th 0⟩⟩
  · have e := y.2.2.2.2.2.2.2.1
    simp (disch := omega) only [mX11_giver, lK0 L, lR0_6 L, lK185 L, e, o_bind, o_map, b_rcv, b_gI, b_gL, b_gR, b_gN, b_pI, b_pL, b_pR, b_gAI, b_gAL, b_gAR, b_pAI, b_pAL, bad_of, bad_l, Bool.false_eq_true, ↓reduceIte, Int32.reduceLT, Int32.reduceLE, Int32.reduceToNatClampNeg, Int32.reduceOfNat, Int32.reduceAdd, Int32.reduceSub, Int32.reduceMul, Nat.reduceAdd, Nat.reduceMul, Nat.reduceEqDiff]
  · have M := R.1.1
    have e := (R.th 0).2.1.2.2.2.2.2.2.2.2.1
    simp (disch := omega) only [mX16_giver, qK0 M, e_K_sI, e, o_bind, o_map, b_rcv, b_gI, b_gL, b_gR, b_gN, b_pI, b_pL, b_pR, b_gAI, b_gAL, b_gAR, b_pAI, b_pAL, bad_of, bad_l, Bool.false_eq_true, ↓reduceIte, Int32.reduceLT, Int32.reduceLE, Int32.reduceToNatClampNeg, Int32.reduceOfNat, Int32.reduceAdd, Int32.reduceSub, Int32.reduceMul, Nat.reduceAdd, Nat.reduceMul, Nat.reduceEqDiff]
theorem x_trouble {c m : Nat} {h : MHp} {A : AS} (C : CR c h A) : XS0 m A (mX11_trouble h c) (fun h1 => mX16_trouble h1 m) := by
  obtain ⟨⟨b, s, L, -⟩, y, -⟩ := C
  refine ⟨aS A 0, ?_, fun h1 R => ⟨_, ?_, R.th 0, Om.th 0⟩⟩
  · have e := y.2.2.1
    simp (disch := omega) only [mX11_trouble, lK0 L, e, o_bind, o_map, b_rcv, b_gI, b_gL, b_gR, b_gN, b_pI, b_pL, b_pR, b_gAI, b_gAL, b_gAR, b_pAI, b_pAL, bad_of, bad_l, Bool.false_eq_true, ↓reduceIte, Int32.reduceLT, Int32.reduceLE, Int32.reduceToNatClampNeg, Int32.reduceOfNat, Int32.reduceAdd, Int32.reduceSub, Int32.reduceMul, Nat.reduceAdd, Nat.reduceMul, Nat.reduceEqDiff]
  · have M := R.1.1
    have e := (R.th 0).2.1.2.2.2.2.1
    simp (disch := omega) only [mX16_trouble, qK0 M, e_K_sI, e, o_bind, o_map, b_rcv, b_gI, b_gL, b_gR, b_gN, b_pI, b_pL, b_pR, b_gAI, b_gAL, b_gAR, b_pAI, b_pAL, bad_of, bad_l, Bool.false_eq_true, ↓reduceIte, Int32.reduceLT, Int32.reduceLE, Int32.reduceToNatClampNeg, Int32.reduceOfNat, Int32.reduceAdd, Int32.reduceSub, Int32.reduceMul, Nat.reduceAdd, Nat.reduceMul, Nat.reduceEqDiff]
/-! weight -/
theorem CR.w {c : Nat} {h : MHp} {A : AS} (W : WA A) (C : CR c h A) (r : Nat) (w : Int32) : CR c (sAI h (c + 114) (va_up (hAI h (c + 114)) r w)) (setA A 5 (va_up (aA A 5) r w)) := by
  have h8 := W.2.2.1
  have hw := W.1.2.1
  obtain ⟨⟨b, s, x1, x2, x3, x4, x5, x6⟩, ⟨y1, y2, y3, y4, y5, y6, y7, y8, y9⟩, ⟨z1, z2, z3, z4, z5, z6, z7, z8, z9, z10, z11, z12⟩, w1, w2, w3, w4⟩ := C
  have ga : ∀ a : Nat, a ≠ (c + 114) → hAI (sAI h (c + 114) (va_up (hAI h (c + 114)) r w)) a = hAI h a := by
    intro a d
    rw [e_sAI, if_neg (by omega)]
  have g : ∀ lo hi : Nat, ((c + 114) < lo ∨ hi ≤ (c + 114)) → Ag lo hi h (sAI h (c + 114) (va_up (hAI h (c + 114)) r w)) := fun lo hi d => Ag.AI _ _ (by omega)
  exact ⟨⟨b, s, x1, x2, x3, x4, x5.ag (g _ _ (by omega)) hw, x6⟩, ⟨y1, y2, y3, y4, y5, y6, y7, y8, y9⟩, ⟨(by rw [ga _ (by omega)]; exact z1), (by rw [ga _ (by omega)]; exact z2), (by rw [ga _ (by omega)]; exact z3), (by rw [ga _ (by omega)]; exact z4), (by rw [ga _ (by omega)]; exact z5), (by rw [ga _ (by omega)]; exact z6), (by rw [ga _ (by omega)]; exact z7), (by rw [ga _ (by omega)]; exact z8), (by rw [ga _ (by omega)]; exact z9), (by rw [e_sAI, if_pos rfl, z10]; rfl), (by rw [ga _ (by omega)]; exact z11), (by rw [ga _ (by omega)]; exact z12)⟩, (by rw [ga _ (by omega), ga _ (by omega)]; exact w1), (by rw [ga _ (by omega)]; exact w2), (by rw [ga (c + 207) (by omega)]; exact w3), fun k hk => ⟨(w4 k hk).1.ag (g _ _ (by omega)), (w4 k hk).2.ag (g _ _ (by omega))⟩⟩
theorem RR.w {m : Nat} {h : MHp} {A : AS} (C : RR m h A) (r : Nat) (w : Int32) : RR m (sAI h (m + 12) (va_up (hAI h (m + 12)) r w)) (setA A 5 (va_up (aA A 5) r w)) := by
  obtain ⟨x, ⟨y1, y2, y3, y4, y5, y6, y7, y8, y9, y10, y11, y12, y13, y14⟩, ⟨z1, z2, z3, z4, z5, z6, z7, z8, z9⟩, w1, w2, w3⟩ := C
  have ga : ∀ a : Nat, a ≠ (m + 12) → hAI (sAI h (m + 12) (va_up (hAI h (m + 12)) r w)) a = hAI h a := by
    intro a d
    rw [e_sAI, if_neg (by omega)]
  have g : ∀ lo hi : Nat, ((m + 12) < lo ∨ hi ≤ (m + 12)) → Ag lo hi h (sAI h (m + 12) (va_up (hAI h (m + 12)) r w)) := fun lo hi d => Ag.AI _ _ (by omega)
  refine ⟨x.ag (g _ _ (by omega)) (Nat.le_refl _) x.1 rfl, ⟨y1, y2, y3, y4, y5, y6, y7, y8, y9, y10, y11, y12, y13, y14⟩, ⟨(by rw [ga _ (by omega)]; exact z1), (by rw [ga _ (by omega)]; exact z2), (by rw [ga _ (by omega)]; exact z3), (by rw [ga _ (by omega)]; exact z4), (by rw [ga _ (by omega)]; exact z5), (by rw [ga _ (by omega), ga _ (by omega), ga _ (by omega)]; exact z6), (by rw [ga _ (by omega)]; exact z7), (by rw [e_sAI, if_pos rfl, z8]; rfl), (by rw [ga _ (by omega)]; exact z9)⟩, (by rw [ga _ (by omega)]; exact w1), (by rw [ga _ (by omega)]; exact w2), ?_⟩
  intro k hk
  obtain ⟨p, p1, p2, p3, p4⟩ := w3 k hk
  obtain ⟨-, -, -, -, ⟨p5, p6⟩, -⟩ := id p2
  exact ⟨p, p1, p2.ag (g _ _ (by omega)) (Nat.le_refl _), p3.ag (g _ _ (by omega)), p4⟩
theorem x_weight {c m : Nat} {h : MHp} {A : AS} (C : CR c h A) (W : WA A) (a w : Int32) : XS c m h A (mX11_weight h c a w) (fun h1 => mX16_weight h1 m a w) := by
  obtain ⟨b, G⟩ := C.rg W
  have L := G.1
  have t1 := G.2.2.2.2.2.1
  have t2 := W.2.2.2.1
  have ti : ∀ t : Int32, hI (sI h c 15 t) (c + 56) 6 = Int32.ofNat (aN A 2) := fun t => by rw [e_sI, if_neg (by omega)]; exact t1
  rcases rng a (aN A 2) with ⟨r, hr, rfl⟩ | hno
  · have e1 := p_has1 L t1 t2 hr
    have e2 := fun t => p_has1 (h := sI h c 15 t) L (ti t) t2 hr
    by_cases hw : 1 ≤ w ∧ w ≤ 99
    · refine ⟨1, setA (tb A 0) 5 (va_up (aA A 5) r w), ?_, ⟨sAI (sI h c 15 0) (c + 114) (va_up (hAI (sI h c 15 0) (c + 114)) r w), ?_, CR.w W.tb (C.tb (by decide)) r w, (Oc.I0 15 0).tr (Oc.AI 114 _ (by omega))⟩, fun h1 R => ?_⟩
      · obtain ⟨v1, v2, v3, v4, v5, v6, v7, v8, v9, v10, v11⟩ := W
        refine ⟨v1, v2, v3, v4, v5, v6, v7, v8, v9, fun r2 hr2 => ?_, v11⟩
        obtain ⟨u1, u2, u3, u4, u5, u6, u7, u8, u9, u10, u11, u12⟩ := v10 r2 hr2
        refine ⟨u1, u2, u3, u4, u5, u6, u7, u8, ?_, ?_, u11, u12⟩
        · show (1 : Int32) ≤ va_up (aA A 5) r w r2
          rw [e_up]
          by_cases q : r2 = r
          · rw [if_pos q]; exact hw.1
          · rw [if_neg q]; exact u9
        · show va_up (aA A 5) r w r2 ≤ (99 : Int32)
          rw [e_up]
          by_cases q : r2 = r
          · rw [if_pos q]; exact hw.2
          · rw [if_neg q]; exact u10
      · simp (disch := omega) only [mX11_weight, mX11_weight_b31, lK0 L, lR0_2 L, lK56 L, e1, n10, p_within, hw, and_self, e_Iself, e_K_sI, e_R_sI, e_N_sI, e2, lR56_4 L, lK114 L, lN114 L, cl_of, o_bind, o_map, b_rcv, b_gI, b_gL, b_gR, b_gN, b_pI, b_pL, b_pR, b_gAI, b_gAL, b_gAR, b_pAI, b_pAL, bad_of, bad_l, Bool.false_eq_true, ↓reduceIte, Int32.reduceLT, Int32.reduceLE, Int32.reduceToNatClampNeg, Int32.reduceOfNat, Int32.reduceAdd, Int32.reduceSub, Int32.reduceMul, Nat.reduceAdd, Nat.reduceMul, Nat.reduceEqDiff]
      · have M := (R.th 0).1.1
        have s1 := (R.th 0).2.1.2.2.1
        have f1 := q_isRow1 M s1 t2 hr
        refine ⟨rtb m (sAI (sI h1 m 0 0) (m + 12) (va_up (hAI (sI h1 m 0 0) (m + 12)) r w)) 0, ?_, ?_, ((Om.th 0).tr (Om.AI _ _ (by omega))).tr Om.tb⟩
        · have M2 : QL m (sAI (sI h1 m 0 0) (m + 12) (va_up (hAI (sI h1 m 0 0) (m + 12)) r w)) := M
          have e5 := q_granted M2
          simp (disch := omega) only [mX16_weight, qK0 R.1.1, e_K_sI, e_K_sAI, f1, n10, q_in, hw, and_self, qR28 M, qK12 R.1.1, qN12 M, cl_of, e5, rB1, o_bind, o_map, b_rcv, b_gI, b_gL, b_gR, b_gN, b_pI, b_pL, b_pR, b_gAI, b_gAL, b_gAR, b_pAI, b_pAL, bad_of, bad_l, Bool.false_eq_true, ↓reduceIte, Int32.reduceLT, Int32.reduceLE, Int32.reduceToNatClampNeg, Int32.reduceOfNat, Int32.reduceAdd, Int32.reduceSub, Int32.reduceMul, Nat.reduceAdd, Nat.reduceMul, Nat.reduceEqDiff]
        · exact ((R.th 0).w r w).tb (t := 0) (by decide)
    · refine ⟨0, tb A 2, W, ⟨sI h c 15 2, ?_, C.tb (by decide), Oc.I0 15 2⟩, fun h1 R => ⟨rtb m (sI h1 m 0 0) 2, ?_, (R.th 0).tb (by decide), (Om.th 0).tr Om.tb⟩⟩
      · simp (disch := omega) only [mX11_weight, mX11_weight_b31, lK0 L, lR0_2 L, lK56 L, e1, n10, p_within, hw, e_Iself, e_K_sI, n20, o_bind, o_map, b_rcv, b_gI, b_gL, b_gR, b_gN, b_pI, b_pL, b_pR, b_gAI, b_gAL, b_gAR, b_pAI, b_pAL, bad_of, bad_l, Bool.false_eq_true, ↓reduceIte, Int32.reduceLT, Int32.reduceLE, Int32.reduceToNatClampNeg, Int32.reduceOfNat, Int32.reduceAdd, Int32.reduceSub, Int32.reduceMul, Nat.reduceAdd, Nat.reduceMul, Nat.reduceEqDiff]
      · have M := (R.th 0).1.1
        have s1 := (R.th 0).2.1.2.2.1
        have f1 := q_isRow1 M s1 t2 hr
        have e5 := q_denied M 2
        simp (disch := omega) only [mX16_weight, qK0 R.1.1, e_K_sI, f1, n10, q_in, hw, e5, rB0, o_bind, o_map, b_rcv, b_gI, b_gL, b_gR, b_gN, b_pI, b_pL, b_pR, b_gAI, b_gAL, b_gAR, b_pAI, b_pAL, bad_of, bad_l, Bool.false_eq_true, ↓reduceIte, Int32.reduceLT, Int32.reduceLE, Int32.reduceToNatClampNeg, Int32.reduceOfNat, Int32.reduceAdd, Int32.reduceSub, Int32.reduceMul, Nat.reduceAdd, Nat.reduceMul, Nat.reduceEqDiff]
  · have e1 := p_has0 L t1 t2 hno
    refine ⟨0, tb A 1, W, ⟨sI h c 15 1, ?_, C.tb (by decide), Oc.I0 15 1⟩, fun h1 R => ⟨rtb m (sI h1 m 0 0) 1, ?_, (R.th 0).tb (by decide), (Om.th 0).tr Om.tb⟩⟩
    · simp (disch := omega) only [mX11_weight, mX11_weight_b31, lK0 L, lR0_2 L, lK56 L, e1, e_Iself, e_K_sI, n10, o_bind, o_map, b_rcv, b_gI, b_gL, b_gR, b_gN, b_pI, b_pL, b_pR, b_gAI, b_gAL, b_gAR, b_pAI, b_pAL, bad_of, bad_l, Bool.false_eq_true, ↓reduceIte, Int32.reduceLT, Int32.reduceLE, Int32.reduceToNatClampNeg, Int32.reduceOfNat, Int32.reduceAdd, Int32.reduceSub, Int32.reduceMul, Nat.reduceAdd, Nat.reduceMul, Nat.reduceEqDiff]
    · have M := (R.th 0).1.1
      have s1 := (R.th 0).2.1.2.2.1
      have f1 := q_isRow0 M s1 t2 hno
      have e5 := q_denied M 1
      simp (disch := omega) only [mX16_weight, qK0 R.1.1, e_K_sI, f1, e5, rB0, o_bind, o_map, b_rcv, b_gI, b_gL, b_gR, b_gN, b_pI, b_pL, b_pR, b_gAI, b_gAL, b_gAR, b_pAI, b_pAL, bad_of, bad_l, Bool.false_eq_true, ↓reduceIte, Int32.reduceLT, Int32.reduceLE, Int32.reduceToNatClampNeg, Int32.reduceOfNat, Int32.reduceAdd, Int32.reduceSub, Int32.reduceMul, Nat.reduceAdd, Nat.reduceMul, Nat.reduceEqDiff]

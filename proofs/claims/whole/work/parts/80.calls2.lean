/-! field, withdraw, pass, value -/
theorem RR.rq {m : Nat} {h : MHp} {A : AS} (C : RR m h A) (W : WA A) (hp : 0 < bF (aB A)) : ∃ b : Nat, RQ m b (aN A 2) h A := by
  obtain ⟨⟨x1, x2, x3, x4⟩, y, z, w⟩ := C
  obtain ⟨b, b1, b2⟩ := x4 hp
  obtain ⟨v1, v2, v3, v4, v5, v6, v7, v8, v9, v10, v11⟩ := W
  refine ⟨b, ⟨x1, z.2.1, z.2.2.1, z.2.2.2.1, z.2.2.2.2.1, z.2.2.2.2.2.2.1, fun r hr => ?_⟩, b1, b2, v1, y.2.2.1, v4, y.2.2.2.2.2.2.2.1, z.2.2.2.2.2.2.2.1⟩
  obtain ⟨u1, u2, u3, u4, u5, u6, u7, u8, u9⟩ := v10 r hr
  obtain ⟨q1, q2, q3⟩ := z.2.2.2.2.2.1 r hr
  exact ⟨q1, q2, q3, u6, u7, u8⟩
theorem WA.pos {A : AS} (W : WA A) {r : Nat} (hr : r < aN A 2) : 0 < bF (aB A) := by
  have h := W.2.2.2.2.2.2.1
  by_cases e : bF (aB A) = 0
  · have := (h e).2.1; omega
  · omega
theorem WA.post {A : AS} (W : WA A) {r : Nat} (hr : r < aN A 1) : 0 < bF (aB A) := by
  have h := W.2.2.2.2.2.2.1
  by_cases e : bF (aB A) = 0
  · have := (h e).1; omega
  · omega
theorem q_isField1 {m f : Nat} {h : MHp} {A : AS} (C : RR m h A) (W : WA A) (hf : f < bF (aB A)) : mX16_isField h m (Int32.ofNat f) = some 1 := by
  obtain ⟨b, Q⟩ := C.rq W (by omega)
  have L := C.1.1
  have b1 := Q.2.1
  have b2 := Q.2.2.1.1.1
  have b3 := Q.2.2.1.2.1
  have w := W.1.1
  have n1 : ¬ (some b = (none : Option Nat)) := by intro e; cases e
  have c1 : ¬ Int32.ofNat f < 0 := by rw [nn_of (by omega)]; exact not_false
  have c2 : ¬ Int32.ofNat (bF (aB A)) ≤ Int32.ofNat f := by rw [le_of (by omega) (by omega)]; omega
  simp (disch := omega) only [mX16_isField, qK0 L, b1, n1, c1, b2, b3, c2, o_bind, o_map, b_rcv, b_gI, b_gL, b_gR, b_gN, b_pI, b_pL, b_pR, b_gAI, b_gAL, b_gAR, b_pAI, b_pAL, bad_of, bad_l, Bool.false_eq_true, ↓reduceIte, Int32.reduceLT, Int32.reduceLE, Int32.reduceToNatClampNeg, Int32.reduceOfNat, Int32.reduceAdd, Int32.reduceSub, Int32.reduceMul, Nat.reduceAdd, Nat.reduceMul, Nat.reduceEqDiff]
theorem q_isField0 {m : Nat} {a : Int32} {h : MHp} {A : AS} (C : RR m h A) (W : WA A) (ha : ∀ f : Nat, f < bF (aB A) → a ≠ Int32.ofNat f) : mX16_isField h m a = some 0 := by
  have L := C.1.1
  by_cases e : bF (aB A) = 0
  · have b1 := C.1.2.2.1 e
    rw [mX16_isField, b_gR, if_pos (qK0 L), b1, if_pos rfl]
  · obtain ⟨b, Q⟩ := C.rq W (by omega)
    have b1 := Q.2.1
    have b2 := Q.2.2.1.1.1
    have b3 := Q.2.2.1.2.1
    have w := W.1.1
    have n1 : ¬ (some b = (none : Option Nat)) := by intro e; cases e
    by_cases h1 : a < 0
    · rw [mX16_isField, b_gR, if_pos (qK0 L), b1, if_neg n1, if_pos h1]
    · obtain ⟨k, rfl, hk⟩ := ex_of h1
      have h2 : bF (aB A) ≤ k := Nat.le_of_not_lt (fun h => ha k h rfl)
      have c2 : Int32.ofNat (bF (aB A)) ≤ Int32.ofNat k := by rw [le_of (by omega) (by omega)]; omega
      rw [mX16_isField, b_gR, if_pos (qK0 L), b1, if_neg n1, if_neg h1, b_gR, if_pos (qK0 L), b1, b_gI, if_pos b2, b3, if_pos c2]
theorem x_field {c m : Nat} {h : MHp} {A : AS} (C : CR c h A) (W : WA A) (a w : Int32) : XS0 m A (mX11_field h c a w) (fun h1 => mX16_field h1 m a w) := by
  obtain ⟨b, G⟩ := C.rg W
  have L := G.1
  have I := G.ib
  have w1 := W.1.1
  have g1 := G.2.1
  have cb := G.2.2.2.1
  have i1 := I.1
  rcases rng a (bF (aB A)) with ⟨f, hf, rfl⟩ | hno
  · have e1 := p_hasField I cb.1 w1 hf
    obtain ⟨t1, t2⟩ := cb.2.2.1 f hf
    obtain ⟨i2, i3, i4, i5, i6, i7, i8, i9, i10, i11, i12, i13, i14⟩ := I.2
    refine ⟨if w = 0 then Int32.ofNat (bT (aB A) f) else if w = 1 then Int32.ofNat (bC (aB A) f) else -1, ?_, fun h1 R => ⟨sI h1 m 0 0, ?_, R.th 0, Om.th 0⟩⟩
    · by_cases q0 : w = 0
      · subst q0
        simp (disch := omega) only [mX11_field, lK0 L, lR0_2 L, lK56 L, g1, i1, e1, n10, i3, i7, i11, cl_of, t1, o_bind, o_map, b_rcv, b_gI, b_gL, b_gR, b_gN, b_pI, b_pL, b_pR, b_gAI, b_gAL, b_gAR, b_pAI, b_pAL, bad_of, bad_l, Bool.false_eq_true, ↓reduceIte, Int32.reduceLT, Int32.reduceLE, Int32.reduceToNatClampNeg, Int32.reduceOfNat, Int32.reduceAdd, Int32.reduceSub, Int32.reduceMul, Nat.reduceAdd, Nat.reduceMul, Nat.reduceEqDiff]
      · by_cases q1 : w = 1
        · subst q1
          simp (disch := omega) only [mX11_field, lK0 L, lR0_2 L, lK56 L, g1, i1, e1, n10, i4, i8, i12, cl_of, t2, o_bind, o_map, b_rcv, b_gI, b_gL, b_gR, b_gN, b_pI, b_pL, b_pR, b_gAI, b_gAL, b_gAR, b_pAI, b_pAL, bad_of, bad_l, Bool.false_eq_true, ↓reduceIte, Int32.reduceLT, Int32.reduceLE, Int32.reduceToNatClampNeg, Int32.reduceOfNat, Int32.reduceAdd, Int32.reduceSub, Int32.reduceMul, Nat.reduceAdd, Nat.reduceMul, Nat.reduceEqDiff]
        · simp (disch := omega) only [mX11_field, lK0 L, lR0_2 L, lK56 L, g1, i1, e1, n10, q0, q1, o_bind, o_map, b_rcv, b_gI, b_gL, b_gR, b_gN, b_pI, b_pL, b_pR, b_gAI, b_gAL, b_gAR, b_pAI, b_pAL, bad_of, bad_l, Bool.false_eq_true, ↓reduceIte, Int32.reduceLT, Int32.reduceLE, Int32.reduceToNatClampNeg, Int32.reduceOfNat, Int32.reduceAdd, Int32.reduceSub, Int32.reduceMul, Nat.reduceAdd, Nat.reduceMul, Nat.reduceEqDiff]
    · have R2 := R.th 0
      have M := R2.1.1
      have f1 := q_isField1 R2 W hf
      obtain ⟨b', Q⟩ := R2.rq W (by omega)
      have b1 := Q.2.1
      obtain ⟨⟨k1, k2, k3, k4, k5, k6, k7, k8, k9, k10, k11, k12, k13⟩, k14, k15, k16, -⟩ := Q.2.2.1
      obtain ⟨-, s1, s2⟩ := k16 f hf
      by_cases q0 : w = 0
      · subst q0
        simp (disch := omega) only [mX16_field, qK0 R.1.1, qK0 M, f1, n10, b1, k1, k3, k7, k11, cl_of, s1, o_bind, o_map, b_rcv, b_gI, b_gL, b_gR, b_gN, b_pI, b_pL, b_pR, b_gAI, b_gAL, b_gAR, b_pAI, b_pAL, bad_of, bad_l, Bool.false_eq_true, ↓reduceIte, Int32.reduceLT, Int32.reduceLE, Int32.reduceToNatClampNeg, Int32.reduceOfNat, Int32.reduceAdd, Int32.reduceSub, Int32.reduceMul, Nat.reduceAdd, Nat.reduceMul, Nat.reduceEqDiff]
      · by_cases q1 : w = 1
        · subst q1
          simp (disch := omega) only [mX16_field, qK0 R.1.1, qK0 M, f1, n10, b1, k1, k4, k8, k12, cl_of, s2, o_bind, o_map, b_rcv, b_gI, b_gL, b_gR, b_gN, b_pI, b_pL, b_pR, b_gAI, b_gAL, b_gAR, b_pAI, b_pAL, bad_of, bad_l, Bool.false_eq_true, ↓reduceIte, Int32.reduceLT, Int32.reduceLE, Int32.reduceToNatClampNeg, Int32.reduceOfNat, Int32.reduceAdd, Int32.reduceSub, Int32.reduceMul, Nat.reduceAdd, Nat.reduceMul, Nat.reduceEqDiff]
        · simp (disch := omega) only [mX16_field, qK0 R.1.1, qK0 M, f1, n10, q0, q1, o_bind, o_map, b_rcv, b_gI, b_gL, b_gR, b_gN, b_pI, b_pL, b_pR, b_gAI, b_gAL, b_gAR, b_pAI, b_pAL, bad_of, bad_l, Bool.false_eq_true, ↓reduceIte, Int32.reduceLT, Int32.reduceLE, Int32.reduceToNatClampNeg, Int32.reduceOfNat, Int32.reduceAdd, Int32.reduceSub, Int32.reduceMul, Nat.reduceAdd, Nat.reduceMul, Nat.reduceEqDiff]
  · have e1 := p_hasField0 I cb.1 w1 hno
    refine ⟨-1, ?_, fun h1 R => ⟨sI h1 m 0 0, ?_, R.th 0, Om.th 0⟩⟩
    · rw [mX11_field, b_gR, if_pos (lK0 L), lR0_2 L, b_gR, if_pos (lK56 L), g1, b_rcv, if_pos i1, e1, o_bind, if_pos rfl]
    · have R2 := R.th 0
      have M := R2.1.1
      have f1 := q_isField0 R2 W hno
      show mX16_field h1 m a w = _
      rw [mX16_field, b_pI, if_pos (qK0 R.1.1), b_rcv, if_pos (qK0 M), f1, o_bind, if_pos rfl]
/-! withdraw -/

theorem CR.wd {c : Nat} {h : MHp} {A : AS} (W : WA A) (C : CR c h A) (r : Nat) : CR c (sAI h (c + 111) (va_up (hAI h (c + 111)) r (aS A 3))) (setA A 2 (va_up (aA A 2) r (aS A 3))) := by
  have h8 := W.2.2.1
  have hw := W.1.2.1
  obtain ⟨⟨b, s, x1, x2, x3, x4, x5, x6⟩, ⟨y1, y2, y3, y4, y5, y6, y7, y8, y9⟩, ⟨z1, z2, z3, z4, z5, z6, z7, z8, z9, z10, z11, z12⟩, w1, w2, w3, w4⟩ := C
  have ga : ∀ a : Nat, a ≠ (c + 111) → hAI (sAI h (c + 111) (va_up (hAI h (c + 111)) r (aS A 3))) a = hAI h a := by
    intro a d
    rw [e_sAI, if_neg (by omega)]
  have g : ∀ lo hi : Nat, ((c + 111) < lo ∨ hi ≤ (c + 111)) → Ag lo hi h (sAI h (c + 111) (va_up (hAI h (c + 111)) r (aS A 3))) := fun lo hi d => Ag.AI _ _ (by omega)
  refine ⟨⟨b, s, x1, x2, x3, x4, x5.ag (g _ _ (by omega)) hw, x6⟩, ⟨y1, y2, y3, y4, y5, y6, y7, y8, y9⟩, ⟨(by rw [ga _ (by omega)]; exact z1), (by rw [ga _ (by omega)]; exact z2), (by rw [ga _ (by omega)]; exact z3), (by rw [ga _ (by omega)]; exact z4), (by rw [ga _ (by omega)]; exact z5), (by rw [ga _ (by omega)]; exact z6), (by rw [e_sAI, if_pos rfl, z7]; rfl), (by rw [ga _ (by omega)]; exact z8), (by rw [ga _ (by omega)]; exact z9), (by rw [ga _ (by omega)]; exact z10), (by rw [ga _ (by omega)]; exact z11), (by rw [ga _ (by omega)]; exact z12)⟩, (by rw [ga _ (by omega), ga _ (by omega)]; exact w1), (by rw [ga _ (by omega)]; exact w2), (by rw [ga (c + 207) (by omega)]; exact w3), fun k hk => ⟨(w4 k hk).1.ag (g _ _ (by omega)), (w4 k hk).2.ag (g _ _ (by omega))⟩⟩

theorem RR.wd {m : Nat} {h : MHp} {A : AS} (C : RR m h A) (W : WA A) (r : Nat) (hr : r < aN A 2) : RR m (sAI h (m + 8) (va_up (hAI h (m + 8)) r (aS A 3))) (setA A 2 (va_up (aA A 2) r (aS A 3))) := by
  obtain ⟨x, ⟨y1, y2, y3, y4, y5, y6, y7, y8, y9, y10, y11, y12, y13, y14⟩, ⟨z1, z2, z3, z4, z5, z6, z7, z8, z9⟩, w1, w2, w3⟩ := C
  have ga : ∀ a : Nat, a ≠ (m + 8) → hAI (sAI h (m + 8) (va_up (hAI h (m + 8)) r (aS A 3))) a = hAI h a := by
    intro a d
    rw [e_sAI, if_neg (by omega)]
  have g : ∀ lo hi : Nat, ((m + 8) < lo ∨ hi ≤ (m + 8)) → Ag lo hi h (sAI h (m + 8) (va_up (hAI h (m + 8)) r (aS A 3))) := fun lo hi d => Ag.AI _ _ (by omega)
  refine ⟨x.ag (g _ _ (by omega)) (Nat.le_refl _) x.1 rfl, ⟨y1, y2, y3, y4, y5, y6, y7, y8, y9, y10, y11, y12, y13, y14⟩, ⟨(by rw [ga _ (by omega)]; exact z1), (by rw [ga _ (by omega)]; exact z2), (by rw [ga _ (by omega)]; exact z3), (by rw [ga _ (by omega)]; exact z4), (by rw [ga _ (by omega)]; exact z5), ?_, (by rw [ga _ (by omega)]; exact z7), (by rw [ga _ (by omega)]; exact z8), (by rw [ga _ (by omega)]; exact z9)⟩, (by rw [ga _ (by omega)]; exact w1), (by rw [ga _ (by omega)]; exact w2), ?_⟩
  · intro r2 hr2
    obtain ⟨q1, q2, q3⟩ := z6 r2 hr2
    refine ⟨?_, by rw [ga _ (by omega)]; exact q2, by rw [ga _ (by omega)]; exact q3⟩
    rw [e_sAI, if_pos rfl]
    show va_up (hAI h (m + 8)) r (aS A 3) r2 = un2 (va_up (aA A 2) r (aS A 3) r2)
    rw [e_up, e_up]
    by_cases q : r2 = r
    · rw [if_pos q, if_pos q, un2_n]
      intro e
      have v8 := W.2.2.2.2.2.2.2.1
      rw [e] at v8
      exact absurd v8 (by decide)
    · rw [if_neg q, if_neg q]; exact q1
  · intro k hk
    obtain ⟨p, p1, p2, p3, p4⟩ := w3 k hk
    obtain ⟨-, -, -, -, ⟨p5, p6⟩, -⟩ := id p2
    exact ⟨p, p1, p2.ag (g _ _ (by omega)) (Nat.le_refl _), p3.ag (g _ _ (by omega)), p4⟩

theorem WA.wd {A : AS} (W : WA A) (r : Nat) : WA (setA A 2 (va_up (aA A 2) r (aS A 3))) := by
  obtain ⟨v1, v2, v3, v4, v5, v6, v7, v8, v9, v10, v11⟩ := W
  refine ⟨v1, v2, v3, v4, v5, v6, v7, v8, v9, fun r2 hr2 => ?_, v11⟩
  obtain ⟨u1, u2, u3, u4, u5, u6, u7, u8, u9, u10, u11, u12⟩ := v10 r2 hr2
  refine ⟨u1, u2, ?_, u4, u5, ?_, u7, u8, u9, u10, u11, u12⟩
  · show va_up (aA A 2) r (aS A 3) r2 ≤ aS A 3
    rw [e_up]
    by_cases q : r2 = r
    · rw [if_pos q]; exact Int32.le_refl _
    · rw [if_neg q]; exact u3
  · show va_up (aA A 2) r (aS A 3) r2 ≠ -2 → 0 ≤ va_up (aA A 2) r (aS A 3) r2
    rw [e_up]
    by_cases q : r2 = r
    · rw [if_pos q]; intro _; exact v8
    · rw [if_neg q]; exact u6
theorem x_withdraw {c m : Nat} {h : MHp} {A : AS} (C : CR c h A) (W : WA A) (a : Int32) : XS c m h A (mX11_withdraw h c a) (fun h1 => mX16_withdraw h1 m a) := by
  obtain ⟨b, G⟩ := C.rg W
  have L := G.1
  have t1 := G.2.2.2.2.2.1
  have t2 := W.2.2.2.1
  have ti : ∀ t : Int32, hI (sI h c 15 t) (c + 56) 6 = Int32.ofNat (aN A 2) := fun t => by rw [e_sI, if_neg (by omega)]; exact t1
  have td : ∀ t : Int32, hI (sI h c 15 t) (c + 56) 7 = aS A 3 := fun t => by rw [e_sI, if_neg (by omega)]; exact C.2.1.2.2.2.2.2.2.1
  have z7 : hAI h (c + 111) = aA A 2 := C.2.2.1.2.2.2.2.2.2.1
  rcases rng a (aN A 2) with ⟨r, hr, rfl⟩ | hno
  · have e1 := p_has1 L t1 t2 hr
    have e2 := fun t => p_has1 (h := sI h c 15 t) L (ti t) t2 hr
    have u6 := (W.2.2.2.2.2.2.2.2.2.1 r hr).2.2.2.2.2.1
    by_cases hw : aA A 2 r = -2
    · refine ⟨1, setA (tb A 0) 2 (va_up (aA A 2) r (aS A 3)), W.tb.wd r, ⟨sAI (sI h c 15 0) (c + 111) (va_up (hAI (sI h c 15 0) (c + 111)) r (aS A 3)), ?_, CR.wd W.tb (C.tb (by decide)) r, (Oc.I0 15 0).tr (Oc.AI 111 _ (by omega))⟩, fun h1 R => ?_⟩
      · have e3 : mX9_isWithdrawn h (c + 56) (Int32.ofNat r) = some 0 := by
          simp (disch := omega) only [mX9_isWithdrawn, lK56 L, e1, n10, lR56_1 L, lK111 L, lN111 L, cl_of, z7, hw, o_bind, o_map, b_rcv, b_gI, b_gL, b_gR, b_gN, b_pI, b_pL, b_pR, b_gAI, b_gAL, b_gAR, b_pAI, b_pAL, bad_of, bad_l, Bool.false_eq_true, ↓reduceIte, Int32.reduceLT, Int32.reduceLE, Int32.reduceToNatClampNeg, Int32.reduceOfNat, Int32.reduceAdd, Int32.reduceSub, Int32.reduceMul, Nat.reduceAdd, Nat.reduceMul, Nat.reduceEqDiff]
        simp (disch := omega) only [mX11_withdraw, mX11_withdraw_b32, lK0 L, lR0_2 L, lK56 L, e1, n10, e3, e_Iself, e_K_sI, e_R_sI, e_N_sI, e2, lR56_1 L, td, lK111 L, lN111 L, cl_of, o_bind, o_map, b_rcv, b_gI, b_gL, b_gR, b_gN, b_pI, b_pL, b_pR, b_gAI, b_gAL, b_gAR, b_pAI, b_pAL, bad_of, bad_l, Bool.false_eq_true, ↓reduceIte, Int32.reduceLT, Int32.reduceLE, Int32.reduceToNatClampNeg, Int32.reduceOfNat, Int32.reduceAdd, Int32.reduceSub, Int32.reduceMul, Nat.reduceAdd, Nat.reduceMul, Nat.reduceEqDiff]
      · have R2 := R.th 0
        have M := R2.1.1
        have s1 := R2.2.1.2.2.1
        have s2 := (R2.2.2.1.2.2.2.2.2.1 r hr).1
        have s3 := R2.2.1.2.2.2.2.2.2.2.1
        rw [hw, un22] at s2
        have f1 := q_isRow1 M s1 t2 hr
        refine ⟨rtb m (sAI (sI h1 m 0 0) (m + 8) (va_up (hAI (sI h1 m 0 0) (m + 8)) r (aS A 3))) 0, ?_, ?_, ((Om.th 0).tr (Om.AI _ _ (by omega))).tr Om.tb⟩
        · have M2 : QL m (sAI (sI h1 m 0 0) (m + 8) (va_up (hAI (sI h1 m 0 0) (m + 8)) r (aS A 3))) := M
          have e5 := q_granted M2
          simp (disch := omega) only [mX16_withdraw, qK0 R.1.1, e_K_sAI, qK0 M, f1, n10, qR24 M, qK8 M, qN8 M, cl_of, s2, s3, e5, rB1, o_bind, o_map, b_rcv, b_gI, b_gL, b_gR, b_gN, b_pI, b_pL, b_pR, b_gAI, b_gAL, b_gAR, b_pAI, b_pAL, bad_of, bad_l, Bool.false_eq_true, ↓reduceIte, Int32.reduceLT, Int32.reduceLE, Int32.reduceToNatClampNeg, Int32.reduceOfNat, Int32.reduceAdd, Int32.reduceSub, Int32.reduceMul, Nat.reduceAdd, Nat.reduceMul, Nat.reduceEqDiff]
        · exact (R2.wd W r hr).tb (t := 0) (by decide)
    · have hm := n1_of (u6 hw)
      refine ⟨0, tb A 5, W, ⟨sI h c 15 5, ?_, C.tb (by decide), Oc.I0 15 5⟩, fun h1 R => ⟨rtb m (sI h1 m 0 0) 5, ?_, (R.th 0).tb (by decide), (Om.th 0).tr Om.tb⟩⟩
      · have e3 : mX9_isWithdrawn h (c + 56) (Int32.ofNat r) = some 1 := by
          simp (disch := omega) only [mX9_isWithdrawn, lK56 L, e1, n10, lR56_1 L, lK111 L, lN111 L, cl_of, z7, hw, o_bind, o_map, b_rcv, b_gI, b_gL, b_gR, b_gN, b_pI, b_pL, b_pR, b_gAI, b_gAL, b_gAR, b_pAI, b_pAL, bad_of, bad_l, Bool.false_eq_true, ↓reduceIte, Int32.reduceLT, Int32.reduceLE, Int32.reduceToNatClampNeg, Int32.reduceOfNat, Int32.reduceAdd, Int32.reduceSub, Int32.reduceMul, Nat.reduceAdd, Nat.reduceMul, Nat.reduceEqDiff]
        simp (disch := omega) only [mX11_withdraw, mX11_withdraw_b32, lK0 L, lR0_2 L, lK56 L, e1, n10, e3, e_Iself, e_K_sI, n50, o_bind, o_map, b_rcv, b_gI, b_gL, b_gR, b_gN, b_pI, b_pL, b_pR, b_gAI, b_gAL, b_gAR, b_pAI, b_pAL, bad_of, bad_l, Bool.false_eq_true, ↓reduceIte, Int32.reduceLT, Int32.reduceLE, Int32.reduceToNatClampNeg, Int32.reduceOfNat, Int32.reduceAdd, Int32.reduceSub, Int32.reduceMul, Nat.reduceAdd, Nat.reduceMul, Nat.reduceEqDiff]
      · have R2 := R.th 0
        have M := R2.1.1
        have s1 := R2.2.1.2.2.1
        have s2 := (R2.2.2.1.2.2.2.2.2.1 r hr).1
        rw [un2_n hw] at s2
        have f1 := q_isRow1 M s1 t2 hr
        have e5 := q_denied M 5
        simp (disch := omega) only [mX16_withdraw, qK0 R.1.1, qK0 M, f1, n10, qR24 M, qK8 M, qN8 M, cl_of, s2, hm, e5, rB0, o_bind, o_map, b_rcv, b_gI, b_gL, b_gR, b_gN, b_pI, b_pL, b_pR, b_gAI, b_gAL, b_gAR, b_pAI, b_pAL, bad_of, bad_l, Bool.false_eq_true, ↓reduceIte, Int32.reduceLT, Int32.reduceLE, Int32.reduceToNatClampNeg, Int32.reduceOfNat, Int32.reduceAdd, Int32.reduceSub, Int32.reduceMul, Nat.reduceAdd, Nat.reduceMul, Nat.reduceEqDiff]
  · have e1 := p_has0 L t1 t2 hno
    refine ⟨0, tb A 1, W, ⟨sI h c 15 1, ?_, C.tb (by decide), Oc.I0 15 1⟩, fun h1 R => ⟨rtb m (sI h1 m 0 0) 1, ?_, (R.th 0).tb (by decide), (Om.th 0).tr Om.tb⟩⟩
    · simp (disch := omega) only [mX11_withdraw, mX11_withdraw_b32, lK0 L, lR0_2 L, lK56 L, e1, e_Iself, e_K_sI, n10, o_bind, o_map, b_rcv, b_gI, b_gL, b_gR, b_gN, b_pI, b_pL, b_pR, b_gAI, b_gAL, b_gAR, b_pAI, b_pAL, bad_of, bad_l, Bool.false_eq_true, ↓reduceIte, Int32.reduceLT, Int32.reduceLE, Int32.reduceToNatClampNeg, Int32.reduceOfNat, Int32.reduceAdd, Int32.reduceSub, Int32.reduceMul, Nat.reduceAdd, Nat.reduceMul, Nat.reduceEqDiff]
    · have M := (R.th 0).1.1
      have s1 := (R.th 0).2.1.2.2.1
      have f1 := q_isRow0 M s1 t2 hno
      have e5 := q_denied M 1
      simp (disch := omega) only [mX16_withdraw, qK0 R.1.1, qK0 M, f1, e5, rB0, o_bind, o_map, b_rcv, b_gI, b_gL, b_gR, b_gN, b_pI, b_pL, b_pR, b_gAI, b_gAL, b_gAR, b_pAI, b_pAL, bad_of, bad_l, Bool.false_eq_true, ↓reduceIte, Int32.reduceLT, Int32.reduceLE, Int32.reduceToNatClampNeg, Int32.reduceOfNat, Int32.reduceAdd, Int32.reduceSub, Int32.reduceMul, Nat.reduceAdd, Nat.reduceMul, Nat.reduceEqDiff]

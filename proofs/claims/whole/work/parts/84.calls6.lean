/-! pass, group, known -/
theorem p_hasBook {c : Nat} {h : MHp} {A : AS} (C : CR c h A) (W : WA A) : mX11_hasBook h c = some (if bF (aB A) = 0 then 0 else 1) := by
  obtain ⟨b, G⟩ := C.rg W
  have L := G.1
  have I := G.ib.1
  have g1 := G.2.1
  have c1 := G.2.2.2.1.1
  have w := W.1.1
  by_cases e : bF (aB A) = 0
  · have e2 : Int32.ofNat (bF (aB A)) ≤ 0 := by rw [e]; decide
    rw [mX11_hasBook, b_gR, if_pos (lK0 L), lR0_2 L, b_gR, if_pos (lK56 L), g1, b_gI, if_pos I, c1, if_pos e2, if_pos e]
  · have e2 : ¬ Int32.ofNat (bF (aB A)) ≤ 0 := by rw [show (0 : Int32) = Int32.ofNat 0 from rfl, le_of (by omega) (by omega)]; omega
    rw [mX11_hasBook, b_gR, if_pos (lK0 L), lR0_2 L, b_gR, if_pos (lK56 L), g1, b_gI, if_pos I, c1, if_neg e2, if_neg e]
theorem RR.bkN {m : Nat} {h : MHp} {A : AS} (C : RR m h A) (e : bF (aB A) = 0) : hR h m 4 = none := C.1.2.2.1 e
theorem RR.bkS {m : Nat} {h : MHp} {A : AS} (C : RR m h A) (e : ¬ bF (aB A) = 0) : hR h m 4 ≠ none := by
  obtain ⟨b, b1, -⟩ := C.1.2.2.2 (by omega)
  rw [b1]; intro e; cases e
theorem sn_mono {x d d' : Int32} (h1 : x ≤ d) (h2 : d ≤ d') : sn x d' = sn x d := by
  unfold sn
  have h3 : x ≤ d' := Int32.le_trans h1 h2
  simp [h1, h3]
theorem WA.ps {A : AS} (W : WA A) {d : Int32} (h1 : aS A 3 ≤ d) (h2 : d ≤ 999) : WA (setS A 3 d) := by
  obtain ⟨v1, v2, v3, v4, v5, v6, v7, v8, v9, v10, v11⟩ := W
  refine ⟨v1, v2, v3, v4, v5, v6, v7, Int32.le_trans v8 h1, h2, fun r hr => ?_, v11⟩
  obtain ⟨u1, u2, u3, u4, u5, u6, u7, u8, u9, u10, u11, u12⟩ := v10 r hr
  refine ⟨Int32.le_trans u1 h1, u2, Int32.le_trans u3 h1, Int32.le_trans u4 h1, Int32.le_trans u5 h1, u6, u7, u8, u9, u10, u11, fun hf => ?_⟩
  have e : (fun f => vA (setS A 3 d) r f (aS (setS A 3 d) 3) 0) = (fun f => vA A r f (aS A 3) 0) := by
    funext f
    show vA A r f d 0 = vA A r f (aS A 3) 0
    unfold vA
    rw [sn_mono u4 h1, sn_mono u5 h1]
  rw [e]
  exact u12 hf

theorem CR.ps {c : Nat} {h : MHp} {A : AS} (W : WA A) (C : CR c h A) (d : Int32) : CR c (sI h (c + 56) 7 d) (setS A 3 d) := by
  have h8 := W.2.2.1
  have hw := W.1.2.1
  obtain ⟨⟨b9, s9, x1, x2, x3, x4, x5, x6⟩, ⟨y1, y2, y3, y4, y5, y6, y7, y8, y9⟩, ⟨z1, z2, z3, z4, z5, z6, z7, z8, z9, z10, z11, z12⟩, w1, w2, w3, w4⟩ := C
  have gI : ∀ a j : Nat, (a ≠ (c + 56) ∨ j ≠ 7) → hI (sI h (c + 56) 7 d) a j = hI h a j := by
    intro a j d
    rw [e_sI, if_neg (by omega)]
  have ag9 : ∀ lo hi : Nat, ((c + 56) < lo ∨ hi ≤ (c + 56)) → Ag lo hi h (sI h (c + 56) 7 d) := fun lo hi d => Ag.I _ _ _ (by omega)
  refine ⟨⟨b9, s9, x1, x2, x3, x4, x5.ag (ag9 _ _ (by omega)) hw, x6⟩, ⟨(by rw [gI _ _ (by omega)]; exact y1), (by rw [gI _ _ (by omega)]; exact y2), (by rw [gI _ _ (by omega)]; exact y3), (by rw [gI _ _ (by omega)]; exact y4), (by rw [gI _ _ (by omega)]; exact y5), (by rw [gI _ _ (by omega)]; exact y6), (by rw [e_sI, if_pos ⟨rfl, rfl⟩]; rfl), (by rw [gI _ _ (by omega)]; exact y8), (by rw [gI _ _ (by omega)]; exact y9)⟩, ⟨z1, z2, z3, z4, z5, z6, z7, z8, z9, z10, z11, z12⟩, w1, w2, (by rw [gI _ 0 (by omega), gI _ 2 (by omega)]; exact w3), fun k9 hk => (fun (hk2 : k9 < aN A 1) => ⟨(w4 k9 hk2).1.ag (ag9 _ _ (by omega)), (w4 k9 hk2).2.ag (ag9 _ _ (by omega))⟩) hk⟩

theorem RR.ps {m : Nat} {h : MHp} {A : AS} (C : RR m h A) (d : Int32) : RR m (sI h m 19 d) (setS A 3 d) := by
  obtain ⟨x, ⟨y1, y2, y3, y4, y5, y6, y7, y8, y9, y10, y11, y12, y13, y14⟩, ⟨z1, z2, z3, z4, z5, z6, z7, z8, z9⟩, w1, w2, w3⟩ := C
  have gI : ∀ a j : Nat, (a ≠ m ∨ j ≠ 19) → hI (sI h m 19 d) a j = hI h a j := by
    intro a j d
    rw [e_sI, if_neg (by omega)]
  have ag9 : ∀ lo hi : Nat, (m < lo ∨ hi ≤ m) → Ag lo hi h (sI h m 19 d) := fun lo hi d => Ag.I _ _ _ (by omega)
  refine ⟨x.ag (ag9 _ _ (by omega)) (Nat.le_refl _) x.1 rfl, ⟨(by rw [gI _ _ (by omega)]; exact y1), (by rw [gI _ _ (by omega)]; exact y2), (by rw [gI _ _ (by omega)]; exact y3), (by rw [gI _ _ (by omega)]; exact y4), (by rw [gI _ _ (by omega)]; exact y5), (by rw [gI _ _ (by omega)]; exact y6), (by rw [gI _ _ (by omega)]; exact y7), (by rw [e_sI, if_pos ⟨rfl, rfl⟩]; rfl), (by rw [gI _ _ (by omega)]; exact y9), (by rw [gI _ _ (by omega)]; exact y10), (by rw [gI _ _ (by omega)]; exact y11), (by rw [gI _ _ (by omega)]; exact y12), (by rw [gI _ _ (by omega)]; exact y13), (by rw [gI _ _ (by omega)]; exact y14)⟩, ⟨z1, z2, z3, z4, z5, z6, z7, z8, z9⟩, w1, w2, ?_⟩
  · intro k hk
    obtain ⟨p, p1, p2, p3, p4⟩ := w3 k hk
    obtain ⟨-, -, -, -, ⟨p5, p6⟩, -⟩ := id p2
    exact ⟨p, p1, p2.ag (ag9 _ _ (by omega)) (Nat.le_refl _), p3.ag (ag9 _ _ (by omega)), p4⟩

theorem pas_b {c : Nat} {h : MHp} (L : CL c h) (a : Int32) (v : Int32) (hv : ¬ v = 0) : mX11_pass_b42 h c a (some c) v = some (-1, sI h c 15 v) := by
  have K : hK (sI h c 15 v) c = 12 := lK0 L
  rw [mX11_pass_b42, b_pI, if_pos (lK0 L), b_gI, if_pos K, e_Iself, if_neg hv]

theorem x_pass {c m : Nat} {h : MHp} {A : AS} (C : CR c h A) (W : WA A) (a : Int32) : XS c m h A (mX11_pass h c a) (fun h1 => mX16_pass h1 m a) := by
  have L := C.l
  have e1 := p_hasBook C W
  have td := C.td
  have v8 := W.2.2.2.2.2.2.2.1
  have v9 := W.2.2.2.2.2.2.2.2.1
  by_cases hb : bF (aB A) = 0
  · rw [if_pos hb] at e1
    refine XS.no (v := -1) 1 (by decide) C W (fun _ _ => Or.inr trivial) ?_ (fun h1 R => ⟨sI h1 m 0 0, Rs.I 0 0 (by decide), ?_⟩)
    · rw [mX11_pass, b_rcv, if_pos (lK0 L), e1, o_bind, if_pos rfl, pas_b L _ 1 n10]
    · have R2 := R.th 0
      have M := R2.1.1
      have f1 := R2.bkN hb
      have e5 := q_refused M 1
      simp (maxSteps := 3000000) (disch := omega) only [mX16_pass, qK0 R.1.1, qK0 M, f1, e5, ↓o_bind, o_map, ↓b_rcv, ↓b_gI, ↓b_gL, ↓b_gR, ↓b_gN, ↓b_pI, ↓b_pL, ↓b_pR, ↓b_gAI, ↓b_gAL, ↓b_gAR, ↓b_pAI, ↓b_pAL, bad_of, bad_l, Bool.false_eq_true, ↓reduceIte, Int32.reduceLT, Int32.reduceLE, Int32.reduceToNatClampNeg, Int32.reduceOfNat, Int32.reduceAdd, Int32.reduceSub, Int32.reduceMul, Nat.reduceAdd, Nat.reduceMul, Nat.reduceEqDiff]
  · rw [if_neg hb] at e1
    by_cases hw : 1 ≤ a ∧ a ≤ 100
    · by_cases hd : aS A 3 + a ≤ 999
      · have hd2 : ¬ 999 < aS A 3 + a := (fun hh => Int32.not_le.mpr hh hd)
        have hd3 : aS A 3 ≤ aS A 3 + a := by obtain ⟨w1, w2⟩ := hw; grind
        refine ⟨aS A 3 + a, setS (tb A 0) 3 (aS A 3 + a), W.tb.ps hd3 hd, ⟨sI (sI h c 15 0) (c + 56) 7 (aS A 3 + a), ?_, CR.ps (W.tb (t := 0)) (C.tb (by decide)) _, (Oc.I0 15 0).tr (Oc.I 56 7 _ (by omega))⟩, fun h1 R => ?_⟩
        · have td2 : hI (sI h c 15 0) (c + 56) 7 = aS A 3 := (C.tb (t := 0) (by decide)).td
          simp (maxSteps := 3000000) (disch := omega) only [mX11_pass, lK0 L, e1, n10, p_within, hw, and_self, lR0_2 L, lK56 L, td, hd2, ↓o_bind, o_map, ↓b_rcv, ↓b_gI, ↓b_gL, ↓b_gR, ↓b_gN, ↓b_pI, ↓b_pL, ↓b_pR, ↓b_gAI, ↓b_gAL, ↓b_gAR, ↓b_pAI, ↓b_pAL, bad_of, bad_l, Bool.false_eq_true, ↓reduceIte, Int32.reduceLT, Int32.reduceLE, Int32.reduceToNatClampNeg, Int32.reduceOfNat, Int32.reduceAdd, Int32.reduceSub, Int32.reduceMul, Nat.reduceAdd, Nat.reduceMul, Nat.reduceEqDiff]
          rw [mX11_pass_b42]
          simp (maxSteps := 3000000) (disch := omega) only [lK0 L, e_Iself, e_K_sI, e_R_sI, lR0_2 L, lK56 L, td2, ↓o_bind, o_map, ↓b_rcv, ↓b_gI, ↓b_gL, ↓b_gR, ↓b_gN, ↓b_pI, ↓b_pL, ↓b_pR, ↓b_gAI, ↓b_gAL, ↓b_gAR, ↓b_pAI, ↓b_pAL, bad_of, bad_l, Bool.false_eq_true, ↓reduceIte, Int32.reduceLT, Int32.reduceLE, Int32.reduceToNatClampNeg, Int32.reduceOfNat, Int32.reduceAdd, Int32.reduceSub, Int32.reduceMul, Nat.reduceAdd, Nat.reduceMul, Nat.reduceEqDiff]
        · have R2 := R.th 0
          have M := R2.1.1
          have s3 := R2.2.1.2.2.2.2.2.2.2.1
          have f1 := R2.bkS hb
          have e5 := q_done (h := sI (sI h1 m 0 0) m 19 (aS A 3 + a)) M (aS A 3 + a)
          refine ⟨rtb m (sI (sI h1 m 0 0) m 19 (aS A 3 + a)) 0, ?_, (R2.ps _).tb (t := 0) (by decide), ((Om.th 0).tr (Om.I 19 _)).tr Om.tb⟩
          simp (maxSteps := 3000000) (disch := omega) only [mX16_pass, qK0 R.1.1, qK0 M, f1, q_in, hw, and_self, n10, s3, hd, e_Iself, e_K_sI, e5, ↓o_bind, o_map, ↓b_rcv, ↓b_gI, ↓b_gL, ↓b_gR, ↓b_gN, ↓b_pI, ↓b_pL, ↓b_pR, ↓b_gAI, ↓b_gAL, ↓b_gAR, ↓b_pAI, ↓b_pAL, bad_of, bad_l, Bool.false_eq_true, ↓reduceIte, Int32.reduceLT, Int32.reduceLE, Int32.reduceToNatClampNeg, Int32.reduceOfNat, Int32.reduceAdd, Int32.reduceSub, Int32.reduceMul, Nat.reduceAdd, Nat.reduceMul, Nat.reduceEqDiff]
      · have hd2 : 999 < aS A 3 + a := Int32.not_le.mp hd
        refine XS.no (v := -1) 2 (by decide) C W (fun _ _ => Or.inr trivial) ?_ (fun h1 R => ⟨sI h1 m 0 0, Rs.I 0 0 (by decide), ?_⟩)
        · have e9 := pas_b L a 2 n20
          simp (maxSteps := 3000000) (disch := omega) only [mX11_pass, mX11_pass_b41, lK0 L, e1, n10, p_within, hw, and_self, lR0_2 L, lK56 L, td, hd2, e9, ↓o_bind, o_map, ↓b_rcv, ↓b_gI, ↓b_gL, ↓b_gR, ↓b_gN, ↓b_pI, ↓b_pL, ↓b_pR, ↓b_gAI, ↓b_gAL, ↓b_gAR, ↓b_pAI, ↓b_pAL, bad_of, bad_l, Bool.false_eq_true, ↓reduceIte, Int32.reduceLT, Int32.reduceLE, Int32.reduceToNatClampNeg, Int32.reduceOfNat, Int32.reduceAdd, Int32.reduceSub, Int32.reduceMul, Nat.reduceAdd, Nat.reduceMul, Nat.reduceEqDiff]
        · have R2 := R.th 0
          have M := R2.1.1
          have s3 := R2.2.1.2.2.2.2.2.2.2.1
          have f1 := R2.bkS hb
          have e5 := q_refused M 2
          simp (maxSteps := 3000000) (disch := omega) only [mX16_pass, mX16_pass_b40, qK0 R.1.1, qK0 M, f1, q_in, hw, and_self, n10, s3, hd, e5, ↓o_bind, o_map, ↓b_rcv, ↓b_gI, ↓b_gL, ↓b_gR, ↓b_gN, ↓b_pI, ↓b_pL, ↓b_pR, ↓b_gAI, ↓b_gAL, ↓b_gAR, ↓b_pAI, ↓b_pAL, bad_of, bad_l, Bool.false_eq_true, ↓reduceIte, Int32.reduceLT, Int32.reduceLE, Int32.reduceToNatClampNeg, Int32.reduceOfNat, Int32.reduceAdd, Int32.reduceSub, Int32.reduceMul, Nat.reduceAdd, Nat.reduceMul, Nat.reduceEqDiff]
    · refine XS.no (v := -1) 2 (by decide) C W (fun _ _ => Or.inr trivial) ?_ (fun h1 R => ⟨sI h1 m 0 0, Rs.I 0 0 (by decide), ?_⟩)
      · have e9 := pas_b L a 2 n20
        simp (maxSteps := 3000000) (disch := omega) only [mX11_pass, mX11_pass_b41, lK0 L, e1, n10, p_within, hw, e9, ↓o_bind, o_map, ↓b_rcv, ↓b_gI, ↓b_gL, ↓b_gR, ↓b_gN, ↓b_pI, ↓b_pL, ↓b_pR, ↓b_gAI, ↓b_gAL, ↓b_gAR, ↓b_pAI, ↓b_pAL, bad_of, bad_l, Bool.false_eq_true, ↓reduceIte, Int32.reduceLT, Int32.reduceLE, Int32.reduceToNatClampNeg, Int32.reduceOfNat, Int32.reduceAdd, Int32.reduceSub, Int32.reduceMul, Nat.reduceAdd, Nat.reduceMul, Nat.reduceEqDiff]
      · have R2 := R.th 0
        have M := R2.1.1
        have f1 := R2.bkS hb
        have e5 := q_refused M 2
        simp (maxSteps := 3000000) (disch := omega) only [mX16_pass, mX16_pass_b40, qK0 R.1.1, qK0 M, f1, q_in, hw, e5, ↓o_bind, o_map, ↓b_rcv, ↓b_gI, ↓b_gL, ↓b_gR, ↓b_gN, ↓b_pI, ↓b_pL, ↓b_pR, ↓b_gAI, ↓b_gAL, ↓b_gAR, ↓b_pAI, ↓b_pAL, bad_of, bad_l, Bool.false_eq_true, ↓reduceIte, Int32.reduceLT, Int32.reduceLE, Int32.reduceToNatClampNeg, Int32.reduceOfNat, Int32.reduceAdd, Int32.reduceSub, Int32.reduceMul, Nat.reduceAdd, Nat.reduceMul, Nat.reduceEqDiff]
/-! values of a field that there are -/
def isV (A : AS) (f v : Int32) : Prop := ∃ g u : Nat, g < bF (aB A) ∧ u ≤ bT (aB A) g ∧ f = Int32.ofNat g ∧ v = Int32.ofNat u
theorem p_topOf {c b n f : Nat} {h : MHp} {B : Bk} (G : RG c b n h B) (hf : f < bF B) : mX1_topOf h b (Int32.ofNat f) = some (Int32.ofNat (bT B f)) := by
  have I := G.ib
  have cb := G.2.2.2.1
  have w := G.2.2.2.2.1.1
  have e1 := p_hasField I cb.1 w hf
  obtain ⟨i1, i2, i3, i4, i5, i6, i7, i8, i9, i10, i11, i12, i13, i14⟩ := I
  have t1 := (cb.2.2.1 f hf).1
  simp (maxSteps := 3000000) (disch := omega) only [mX1_topOf, i1, e1, n10, i3, i7, i11, cl_of, t1, ↓o_bind, o_map, ↓b_rcv, ↓b_gI, ↓b_gL, ↓b_gR, ↓b_gN, ↓b_pI, ↓b_pL, ↓b_pR, ↓b_gAI, ↓b_gAL, ↓b_gAR, ↓b_pAI, ↓b_pAL, bad_of, bad_l, Bool.false_eq_true, ↓reduceIte, Int32.reduceLT, Int32.reduceLE, Int32.reduceToNatClampNeg, Int32.reduceOfNat, Int32.reduceAdd, Int32.reduceSub, Int32.reduceMul, Nat.reduceAdd, Nat.reduceMul, Nat.reduceEqDiff]
theorem p_hasValue1 {c b n f u : Nat} {h : MHp} {B : Bk} (G : RG c b n h B) (hf : f < bF B) (hu : u ≤ bT B f) : mX1_hasValue h b (Int32.ofNat f) (Int32.ofNat u) = some 1 := by
  have e1 := p_topOf G hf
  have i1 := G.ib.1
  have w := G.2.2.2.2.1.2.2.1 f hf
  have c1 : ¬ Int32.ofNat u < 0 := by rw [nn_of (by omega)]; exact not_false
  have c2 : ¬ Int32.ofNat (bT B f) < Int32.ofNat u := by rw [lt_of (by omega) (by omega)]; omega
  rw [mX1_hasValue, if_neg c1, b_rcv, if_pos i1, e1, o_bind, if_neg c2]
theorem p_hasValue0 {c b n : Nat} {f v : Int32} {h : MHp} {A : AS} (G : RG c b n h (aB A)) (hn : ¬ isV A f v) : mX1_hasValue h b f v = some 0 := by
  have I := G.ib
  have i1 := I.1
  have cb := G.2.2.2.1
  have w := G.2.2.2.2.1.1
  by_cases h1 : v < 0
  · rw [mX1_hasValue, if_pos h1]
  · obtain ⟨u, rfl, hu⟩ := ex_of h1
    rcases rng f (bF (aB A)) with ⟨g, hg, rfl⟩ | hno
    · have e1 := p_topOf G hg
      have w2 := G.2.2.2.2.1.2.2.1 g hg
      have c2 : Int32.ofNat (bT (aB A) g) < Int32.ofNat u := by
        rw [lt_of (by omega) (by omega)]
        exact Nat.lt_of_not_le (fun hle => hn ⟨g, u, hg, hle, rfl, rfl⟩)
      rw [mX1_hasValue, if_neg h1, b_rcv, if_pos i1, e1, o_bind, if_pos c2]
    · have e2 := p_hasField0 I cb.1 w hno
      have e3 : mX1_topOf h b f = some (-1) := by rw [mX1_topOf, b_rcv, if_pos i1, e2, o_bind, if_pos rfl]
      have c2 : (-1 : Int32) < Int32.ofNat u := by
        rw [Int32.lt_iff_toInt_lt, ti_of hu]
        have : (-1 : Int32).toInt = -1 := rfl
        rw [this]; omega
      rw [mX1_hasValue, if_neg h1, b_rcv, if_pos i1, e3, o_bind, if_pos c2]
theorem q_top {m b n f : Nat} {h : MHp} {A : AS} (Q : RQ m b n h A) (hf : f < bF (aB A)) : hAI h (b + 2) f = Int32.ofNat (bT (aB A) f) := by
  obtain ⟨-, -, -, k16, -⟩ := Q.2.2.1
  exact (k16 f hf).2.1
theorem in_v {h : MHp} {u n : Nat} (hn : n ≤ 100) (hu : u ≤ n) : mX16_in h (Int32.ofNat u) 0 (Int32.ofNat n) = some 1 := by
  rw [q_in, if_pos]
  exact ⟨by rw [show (0 : Int32) = Int32.ofNat 0 from rfl, le_of (by omega) (by omega)]; omega, by rw [le_of (by omega) (by omega)]; omega⟩
theorem in_vn {h : MHp} {n : Nat} {v : Int32} (hn : n ≤ 100) (hv : ∀ u : Nat, u ≤ n → v ≠ Int32.ofNat u) : mX16_in h v 0 (Int32.ofNat n) = some 0 := by
  rw [q_in, if_neg]
  rintro ⟨h1, h2⟩
  obtain ⟨u, rfl, hu⟩ := ex_of (Int32.not_lt.mpr h1)
  rw [le_of (by omega) (by omega)] at h2
  exact hv u h2 rfl

theorem CR.gr {c : Nat} {h : MHp} {A : AS} (W : WA A) (C : CR c h A) (k : Nat) (v : Int32) : CR c (sAI h (c + 199) (va_up (hAI h (c + 199)) k v)) (setA A 11 (va_up (aA A 11) k v)) := by
  have h8 := W.2.2.1
  have hw := W.1.2.1
  obtain ⟨⟨b9, s9, x1, x2, x3, x4, x5, x6⟩, ⟨y1, y2, y3, y4, y5, y6, y7, y8, y9⟩, ⟨z1, z2, z3, z4, z5, z6, z7, z8, z9, z10, z11, z12⟩, w1, w2, w3, w4⟩ := C
  have ga : ∀ a : Nat, a ≠ (c + 199) → hAI (sAI h (c + 199) (va_up (hAI h (c + 199)) k v)) a = hAI h a := by
    intro a d
    rw [e_sAI, if_neg (by omega)]
  have ag9 : ∀ lo hi : Nat, ((c + 199) < lo ∨ hi ≤ (c + 199)) → Ag lo hi h (sAI h (c + 199) (va_up (hAI h (c + 199)) k v)) := fun lo hi d => Ag.AI _ _ (by omega)
  refine ⟨⟨b9, s9, x1, x2, x3, x4, x5.ag (ag9 _ _ (by omega)) hw, x6⟩, ⟨y1, y2, y3, y4, y5, y6, y7, y8, y9⟩, ⟨(by rw [ga _ (by omega)]; exact z1), (by rw [ga _ (by omega)]; exact z2), (by rw [ga _ (by omega)]; exact z3), (by rw [ga _ (by omega)]; exact z4), (by rw [ga _ (by omega)]; exact z5), (by rw [ga _ (by omega)]; exact z6), (by rw [ga _ (by omega)]; exact z7), (by rw [ga _ (by omega)]; exact z8), (by rw [ga _ (by omega)]; exact z9), (by rw [ga _ (by omega)]; exact z10), (by rw [ga _ (by omega)]; exact z11), (by rw [e_sAI, if_pos rfl, z12]; rfl)⟩, (by rw [ga _ (by omega), ga _ (by omega)]; exact w1), (by rw [ga _ (by omega)]; exact w2), (by rw [ga (c + 207) (by omega)]; exact w3), fun k9 hk => (fun (hk2 : k9 < aN A 1) => ⟨(w4 k9 hk2).1.ag (ag9 _ _ (by omega)), (w4 k9 hk2).2.ag (ag9 _ _ (by omega))⟩) hk⟩

theorem RR.gr {m : Nat} {h : MHp} {A : AS} (C : RR m h A) (k : Nat) (v : Int32) : RR m (sAI h (m + 18) (va_up (hAI h (m + 18)) k v)) (setA A 11 (va_up (aA A 11) k v)) := by
  obtain ⟨x, ⟨y1, y2, y3, y4, y5, y6, y7, y8, y9, y10, y11, y12, y13, y14⟩, ⟨z1, z2, z3, z4, z5, z6, z7, z8, z9⟩, w1, w2, w3⟩ := C
  have ga : ∀ a : Nat, a ≠ (m + 18) → hAI (sAI h (m + 18) (va_up (hAI h (m + 18)) k v)) a = hAI h a := by
    intro a d
    rw [e_sAI, if_neg (by omega)]
  have ag9 : ∀ lo hi : Nat, ((m + 18) < lo ∨ hi ≤ (m + 18)) → Ag lo hi h (sAI h (m + 18) (va_up (hAI h (m + 18)) k v)) := fun lo hi d => Ag.AI _ _ (by omega)
  refine ⟨x.ag (ag9 _ _ (by omega)) (Nat.le_refl _) x.1 rfl, ⟨y1, y2, y3, y4, y5, y6, y7, y8, y9, y10, y11, y12, y13, y14⟩, ⟨(by rw [ga _ (by omega)]; exact z1), (by rw [ga _ (by omega)]; exact z2), (by rw [ga _ (by omega)]; exact z3), (by rw [ga _ (by omega)]; exact z4), (by rw [ga _ (by omega)]; exact z5), (by rw [ga _ (by omega), ga _ (by omega), ga _ (by omega)]; exact z6), (by rw [ga _ (by omega)]; exact z7), (by rw [ga _ (by omega)]; exact z8), (by rw [e_sAI, if_pos rfl, z9]; rfl)⟩, (by rw [ga _ (by omega)]; exact w1), (by rw [ga _ (by omega)]; exact w2), ?_⟩
  · intro k hk
    obtain ⟨p, p1, p2, p3, p4⟩ := w3 k hk
    obtain ⟨-, -, -, -, ⟨p5, p6⟩, -⟩ := id p2
    exact ⟨p, p1, p2.ag (ag9 _ _ (by omega)) (Nat.le_refl _), p3.ag (ag9 _ _ (by omega)), p4⟩

theorem grp_b {c : Nat} {h : MHp} (L : CL c h) (f u g : Int32) (v : Int32) (hv : ¬ v = 0) : mX11_group_b35 h c f u g (some c) v = some (0, sI h c 15 v) := by
  have K : hK (sI h c 15 v) c = 12 := lK0 L
  rw [mX11_group_b35, b_pI, if_pos (lK0 L), b_gI, if_pos K, e_Iself, if_neg hv]

theorem ix10 (f u : Nat) : Int32.ofNat f * 10 + Int32.ofNat u = Int32.ofNat (f * 10 + u) := by simp
theorem ix10' (f u : Nat) : 10 * Int32.ofNat f + Int32.ofNat u = Int32.ofNat (f * 10 + u) := by simp; rw [Int32.mul_comm]
theorem x_group {c m : Nat} {h : MHp} {A : AS} (C : CR c h A) (W : WA A) (f v g : Int32) : XS c m h A (mX11_group h c f v g) (fun h1 => mX16_group h1 m f v g) := by
  obtain ⟨b, G⟩ := C.rg W
  have L := C.l
  have g1 := G.2.1
  have i1 := G.ib.1
  by_cases hv : isV A f v
  · obtain ⟨q, u, hq, hu, rfl, rfl⟩ := hv
    have e1 := p_hasValue1 G hq hu
    have w6 := W.1.1
    have wt := W.1.2.2.1 q hq
    by_cases hg : 0 ≤ g ∧ g ≤ 9
    · refine ⟨1, setA (tb A 0) 11 (va_up (aA A 11) (q * 10 + u) g), W, ⟨sAI (sI h c 15 0) (c + 199) (va_up (hAI (sI h c 15 0) (c + 199)) (q * 10 + u) g), ?_, CR.gr (W.tb (t := 0)) (C.tb (by decide)) _ _, (Oc.I0 15 0).tr (Oc.AI 199 _ (by omega))⟩, fun h1 R => ?_⟩
      · have k1 : ¬ Int32.ofNat (q * 10 + u) < 0 := by rw [nn_of (by omega)]; exact not_false
        have k2 : ¬ (60 : Int32) ≤ Int32.ofNat (q * 10 + u) := by rw [show (60 : Int32) = Int32.ofNat 60 from rfl, le_of (by omega) (by omega)]; omega
        simp (maxSteps := 3000000) (disch := omega) only [mX11_group, lK0 L, lR0_2 L, lK56 L, g1, i1, e1, n10, p_within, hg, and_self, ↓o_bind, o_map, ↓b_rcv, ↓b_gI, ↓b_gL, ↓b_gR, ↓b_gN, ↓b_pI, ↓b_pL, ↓b_pR, ↓b_gAI, ↓b_gAL, ↓b_gAR, ↓b_pAI, ↓b_pAL, bad_of, bad_l, Bool.false_eq_true, ↓reduceIte, Int32.reduceLT, Int32.reduceLE, Int32.reduceToNatClampNeg, Int32.reduceOfNat, Int32.reduceAdd, Int32.reduceSub, Int32.reduceMul, Nat.reduceAdd, Nat.reduceMul, Nat.reduceEqDiff]
        rw [mX11_group_b35]
        simp (maxSteps := 3000000) (disch := omega) only [mX6_join, lK0 L, e_Iself, e_K_sI, e_R_sI, e_N_sI, lR0_9 L, lK198 L, ix10, k1, lR198_1 L, lK199 L, lN199 L, k2, cl_of, ↓o_bind, o_map, ↓b_rcv, ↓b_gI, ↓b_gL, ↓b_gR, ↓b_gN, ↓b_pI, ↓b_pL, ↓b_pR, ↓b_gAI, ↓b_gAL, ↓b_gAR, ↓b_pAI, ↓b_pAL, bad_of, bad_l, Bool.false_eq_true, ↓reduceIte, Int32.reduceLT, Int32.reduceLE, Int32.reduceToNatClampNeg, Int32.reduceOfNat, Int32.reduceAdd, Int32.reduceSub, Int32.reduceMul, Nat.reduceAdd, Nat.reduceMul, Nat.reduceEqDiff]
      · have R2 := R.th 0
        have M := R2.1.1
        have f1 := q_isField1 R2 W hq
        obtain ⟨b', Q⟩ := R2.rq W (by omega)
        have b1 := Q.2.1
        have t1 := q_top Q hq
        obtain ⟨⟨k1, k2, k3, k4, k5, k6, k7, k8, k9, k10, k11, k12, k13⟩, -⟩ := Q.2.2.1
        have e3 := in_v (h := sI h1 m 0 0) (show bT (aB A) q ≤ 100 by omega) hu
        have e5 := q_granted (h := sAI (sI h1 m 0 0) (m + 18) (va_up (hAI (sI h1 m 0 0) (m + 18)) (q * 10 + u) g)) M
        refine ⟨rtb m (sAI (sI h1 m 0 0) (m + 18) (va_up (hAI (sI h1 m 0 0) (m + 18)) (q * 10 + u) g)) 0, ?_, (R2.gr _ _).tb (t := 0) (by decide), ((Om.th 0).tr (Om.AI _ _ (by omega))).tr Om.tb⟩
        have e4 : mX16_in (sI h1 m 0 0) g 0 9 = some 1 := by rw [q_in, if_pos hg]
        simp (maxSteps := 3000000) (disch := omega) only [mX16_group, qK0 R.1.1, qK0 M, f1, n10, b1, k1, k3, k7, k11, cl_of, t1, e3, e4, qR36 M, qK18 M, qN18 M, ix10', e_K_sAI, e5, rB1, ↓o_bind, o_map, ↓b_rcv, ↓b_gI, ↓b_gL, ↓b_gR, ↓b_gN, ↓b_pI, ↓b_pL, ↓b_pR, ↓b_gAI, ↓b_gAL, ↓b_gAR, ↓b_pAI, ↓b_pAL, bad_of, bad_l, Bool.false_eq_true, ↓reduceIte, Int32.reduceLT, Int32.reduceLE, Int32.reduceToNatClampNeg, Int32.reduceOfNat, Int32.reduceAdd, Int32.reduceSub, Int32.reduceMul, Nat.reduceAdd, Nat.reduceMul, Nat.reduceEqDiff]
    · refine XS.no (v := 0) 2 (by decide) C W (fun _ _ => Or.inr trivial) ?_ (fun h1 R => ⟨sI h1 m 0 0, Rs.I 0 0 (by decide), ?_⟩)
      · have e9 := grp_b L (Int32.ofNat q) (Int32.ofNat u) g 2 n20
        simp (maxSteps := 3000000) (disch := omega) only [mX11_group, lK0 L, lR0_2 L, lK56 L, g1, i1, e1, n10, p_within, hg, e9, ↓o_bind, o_map, ↓b_rcv, ↓b_gI, ↓b_gL, ↓b_gR, ↓b_gN, ↓b_pI, ↓b_pL, ↓b_pR, ↓b_gAI, ↓b_gAL, ↓b_gAR, ↓b_pAI, ↓b_pAL, bad_of, bad_l, Bool.false_eq_true, ↓reduceIte, Int32.reduceLT, Int32.reduceLE, Int32.reduceToNatClampNeg, Int32.reduceOfNat, Int32.reduceAdd, Int32.reduceSub, Int32.reduceMul, Nat.reduceAdd, Nat.reduceMul, Nat.reduceEqDiff]
      · have R2 := R.th 0
        have M := R2.1.1
        have f1 := q_isField1 R2 W hq
        obtain ⟨b', Q⟩ := R2.rq W (by omega)
        have b1 := Q.2.1
        have t1 := q_top Q hq
        obtain ⟨⟨k1, k2, k3, k4, k5, k6, k7, k8, k9, k10, k11, k12, k13⟩, -⟩ := Q.2.2.1
        have e3 := in_v (h := sI h1 m 0 0) (show bT (aB A) q ≤ 100 by omega) hu
        have e5 := q_denied M 2
        have e4 : mX16_in (sI h1 m 0 0) g 0 9 = some 0 := by rw [q_in, if_neg hg]
        simp (maxSteps := 3000000) (disch := omega) only [mX16_group, qK0 R.1.1, qK0 M, f1, n10, b1, k1, k3, k7, k11, cl_of, t1, e3, e4, e5, rB0, ↓o_bind, o_map, ↓b_rcv, ↓b_gI, ↓b_gL, ↓b_gR, ↓b_gN, ↓b_pI, ↓b_pL, ↓b_pR, ↓b_gAI, ↓b_gAL, ↓b_gAR, ↓b_pAI, ↓b_pAL, bad_of, bad_l, Bool.false_eq_true, ↓reduceIte, Int32.reduceLT, Int32.reduceLE, Int32.reduceToNatClampNeg, Int32.reduceOfNat, Int32.reduceAdd, Int32.reduceSub, Int32.reduceMul, Nat.reduceAdd, Nat.reduceMul, Nat.reduceEqDiff]
  · have e1 := p_hasValue0 G hv
    refine XS.no (v := 0) 1 (by decide) C W (fun _ _ => Or.inr trivial) ?_ (fun h1 R => ⟨sI h1 m 0 0, Rs.I 0 0 (by decide), ?_⟩)
    · rw [mX11_group, b_gR, if_pos (lK0 L), lR0_2 L, b_gR, if_pos (lK56 L), g1, b_rcv, if_pos i1, e1, o_bind, if_pos rfl, grp_b L _ _ _ 1 n10]
    · have R2 := R.th 0
      have M := R2.1.1
      have e5 := q_denied M 1
      rcases rng f (bF (aB A)) with ⟨q, hq, rfl⟩ | hno
      · have f1 := q_isField1 R2 W hq
        obtain ⟨b', Q⟩ := R2.rq W (by omega)
        have b1 := Q.2.1
        have t1 := q_top Q hq
        have w6 := W.1.1
        have wt := W.1.2.2.1 q hq
        obtain ⟨⟨k1, k2, k3, k4, k5, k6, k7, k8, k9, k10, k11, k12, k13⟩, -⟩ := Q.2.2.1
        have e3 := in_vn (h := sI h1 m 0 0) (v := v) (show bT (aB A) q ≤ 100 by omega) (fun u hu e => hv ⟨q, u, hq, hu, rfl, e⟩)
        simp (maxSteps := 3000000) (disch := omega) only [mX16_group, mX16_group_b30, qK0 R.1.1, qK0 M, f1, n10, b1, k1, k3, k7, k11, cl_of, t1, e3, e5, rB0, ↓o_bind, o_map, ↓b_rcv, ↓b_gI, ↓b_gL, ↓b_gR, ↓b_gN, ↓b_pI, ↓b_pL, ↓b_pR, ↓b_gAI, ↓b_gAL, ↓b_gAR, ↓b_pAI, ↓b_pAL, bad_of, bad_l, Bool.false_eq_true, ↓reduceIte, Int32.reduceLT, Int32.reduceLE, Int32.reduceToNatClampNeg, Int32.reduceOfNat, Int32.reduceAdd, Int32.reduceSub, Int32.reduceMul, Nat.reduceAdd, Nat.reduceMul, Nat.reduceEqDiff]
      · have f1 := q_isField0 R2 W hno
        simp (maxSteps := 3000000) (disch := omega) only [mX16_group, mX16_group_b30, qK0 R.1.1, qK0 M, f1, e5, rB0, ↓o_bind, o_map, ↓b_rcv, ↓b_gI, ↓b_gL, ↓b_gR, ↓b_gN, ↓b_pI, ↓b_pL, ↓b_pR, ↓b_gAI, ↓b_gAL, ↓b_gAR, ↓b_pAI, ↓b_pAL, bad_of, bad_l, Bool.false_eq_true, ↓reduceIte, Int32.reduceLT, Int32.reduceLE, Int32.reduceToNatClampNeg, Int32.reduceOfNat, Int32.reduceAdd, Int32.reduceSub, Int32.reduceMul, Nat.reduceAdd, Nat.reduceMul, Nat.reduceEqDiff]

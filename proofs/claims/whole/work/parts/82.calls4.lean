/-! figure, far, span -/
theorem CR.l {c : Nat} {h : MHp} {A : AS} (C : CR c h A) : CL c h := by obtain ⟨⟨b, s, L, -⟩, -⟩ := C; exact L
theorem CR.td {c : Nat} {h : MHp} {A : AS} (C : CR c h A) : hI h (c + 56) 7 = aS A 3 := C.2.1.2.2.2.2.2.2.1
/-- a refusal on both sides -/
theorem XS.no {α : Type} {c m : Nat} {h : MHp} {A : AS} {F : Option (α × MHp)} {G : MHp → Option (α × MHp)} {v : α} (t : Int32) (ht : t ≠ 4) (C : CR c h A) (W : WA A) (e1 : ∀ h2 : MHp, Sc c h h2 → False ∨ True) (hF : F = some (v, sI h c 15 t)) (hG : ∀ h1 : MHp, RR m h1 A → ∃ h2 : MHp, Rs m h1 h2 ∧ G h1 = some (v, rtb m h2 t)) : XS c m h A F G := by
  refine ⟨v, tb A t, W, ⟨_, hF, C.tb ht, Oc.I0 15 t⟩, fun h1 R => ?_⟩
  obtain ⟨h2, S, e⟩ := hG h1 R
  exact ⟨_, e, (R.sc S).tb ht, S.om.tr Om.tb⟩
theorem fig_b {c : Nat} {h : MHp} (L : CL c h) (t i j d f v : Int32) (hv : ¬ v = 0) : mX11_figure_b42 h c t i j d f (some c) v = some (-9223372036854775808, sI h c 15 v) := by
  have K : hK (sI h c 15 v) c = 12 := lK0 L
  rw [mX11_figure_b42, b_pI, if_pos (lK0 L), b_gI, if_pos K, e_Iself, if_neg hv]
theorem x_figure {c m : Nat} {h : MHp} {A : AS} (C : CR c h A) (W : WA A) (t i j d f : Int32) : XS c m h A (mX11_figure h c t i j d f) (fun h1 => mX16_figure h1 m t i j d f) := by
  have L := C.l
  by_cases hc : isC A t i j
  · obtain ⟨k, u, v, hk, hu, hv, rfl, rfl, rfl⟩ := hc
    have e1 := p_hasCell1 C W hk hu hv
    have e2 := p_isDay L d
    rw [C.td] at e2
    by_cases hd : 0 ≤ d ∧ d ≤ aS A 3
    · rcases rng f 5 with ⟨fil, hfil, rfl⟩ | hno
      · have hf : (0 : Int32) ≤ Int32.ofNat fil ∧ Int32.ofNat fil ≤ 4 := by
          refine ⟨?_, ?_⟩
          · rw [show (0 : Int32) = Int32.ofNat 0 from rfl, le_of (by omega) (by omega)]; omega
          · rw [show (4 : Int32) = Int32.ofNat 4 from rfl, le_of (by omega) (by omega)]; omega
        have C2 : CR c (sI h c 15 0) (tb A 0) := C.tb (by decide)
        have e3 := p_hasTable1 C2 W hk
        obtain ⟨p1, p2, p3, p4, p5⟩ := C2.plan W hk
        obtain ⟨h2, g1, S⟩ := p_sumOf (d := d) C2 W hk hfil hu hv
        have h8 := W.2.2.1
        refine ⟨figA A (aP A k) (Int32.ofNat u) (Int32.ofNat v) d fil, tb A 0, W, ⟨h2, ?_, C2.sc W S, (Oc.I0 15 0).tr S.oc⟩, fun h1 R => ?_⟩
        · have e4 : mX7_cellAt (sI h c 15 0) (c + 120 + 7 * k) (Int32.ofNat u) (Int32.ofNat v) = some (Int32.ofNat (u * vs (aB A) (pI2 (aP A k)) + v)) := by
            have c5 : hI (sI h c 15 0) (c + 120 + 7 * k) 7 = Int32.ofNat (vs (aB A) (pI2 (aP A k))) := p3.2.2.2.2.1
            rw [mX7_cellAt, b_gI, if_pos p1.1, c5, ofNat_mul_add]
          have i1 := p1.1
          rw [e_K_sI] at i1
          have g2 : mX2_sumOf (sI h c 15 0) (c + 192) (some (c + 120 + 7 * k)) (Int32.ofNat (u * vs (aB A) (pI2 (aP A k)) + v)) d (Int32.ofNat fil) = some (figA A (aP A k) (Int32.ofNat u) (Int32.ofNat v) d fil, h2) := g1
          rw [e_AR_sI] at p2
          simp (disch := omega) only [mX11_figure, lK0 L, e1, n10, lR0_2 L, lK56 L, e2, hd, and_self, p_within, hf, o_bind, o_map, b_rcv, b_gI, b_gL, b_gR, b_gN, b_pI, b_pL, b_pR, b_gAI, b_gAL, b_gAR, b_pAI, b_pAL, bad_of, bad_l, Bool.false_eq_true, ↓reduceIte, Int32.reduceLT, Int32.reduceLE, Int32.reduceToNatClampNeg, Int32.reduceOfNat, Int32.reduceAdd, Int32.reduceSub, Int32.reduceMul, Nat.reduceAdd, Nat.reduceMul, Nat.reduceEqDiff]
          rw [mX11_figure_b42]
          simp (disch := omega) only [lK0 L, n10, lR0_2 L, lK56 L, e_Iself, e_K_sI, e_R_sI, e_N_sI, e_AR_sI, e3, lR0_7 L, lR0_3 L, lK119 L, lN119 L, cl_of, p2, i1, e4, lK192 L, g2, o_bind, o_map, b_rcv, b_gI, b_gL, b_gR, b_gN, b_pI, b_pL, b_pR, b_gAI, b_gAL, b_gAR, b_pAI, b_pAL, bad_of, bad_l, Bool.false_eq_true, ↓reduceIte, Int32.reduceLT, Int32.reduceLE, Int32.reduceToNatClampNeg, Int32.reduceOfNat, Int32.reduceAdd, Int32.reduceSub, Int32.reduceMul, Nat.reduceAdd, Nat.reduceMul, Nat.reduceEqDiff]
        · have R2 := R.th 0
          have M := R2.1.1
          have f1 := q_isCell1 R2 W hk hu hv
          have s3 := R2.2.1.2.2.2.2.2.2.2.1
          obtain ⟨b, Q⟩ := R2.rq W (W.post hk)
          obtain ⟨p, pp1, pp2, -⟩ := q_table R2 hk
          obtain ⟨h3, g3, S3⟩ := q_figure (i := Int32.ofNat u) (j := Int32.ofNat v) (d := d) Q pp2 hfil p5
          have M3 := S3.QL M
          have e5 := q_told M3 (figA A (aP A k) (Int32.ofNat u) (Int32.ofNat v) d fil)
          refine ⟨rtb m h3 0, ?_, (R2.sc S3).tb (by decide), ((Om.th 0).tr S3.om).tr Om.tb⟩
          rw [e_AR_sI] at pp1
          simp (disch := omega) only [mX16_figure, qK0 R.1.1, e_K_sI, f1, n10, s3, q_in, hd, hf, and_self, qR6 M, qK1 R.1.1, qN1 M, cl_of, e_AR_sI, pp1, g3, qK0 M3, e5, o_bind, o_map, b_rcv, b_gI, b_gL, b_gR, b_gN, b_pI, b_pL, b_pR, b_gAI, b_gAL, b_gAR, b_pAI, b_pAL, bad_of, bad_l, Bool.false_eq_true, ↓reduceIte, Int32.reduceLT, Int32.reduceLE, Int32.reduceToNatClampNeg, Int32.reduceOfNat, Int32.reduceAdd, Int32.reduceSub, Int32.reduceMul, Nat.reduceAdd, Nat.reduceMul, Nat.reduceEqDiff]
      · have hf : ¬ ((0 : Int32) ≤ f ∧ f ≤ 4) := by
          rintro ⟨h1, h2⟩
          obtain ⟨q, rfl, hq⟩ := ex_of (Int32.not_lt.mpr h1)
          rw [show (4 : Int32) = Int32.ofNat 4 from rfl, le_of (by omega) (by omega)] at h2
          exact hno q (by omega) rfl
        refine XS.no (v := -9223372036854775808) 2 (by decide) C W (fun _ _ => Or.inr trivial) ?_ (fun h1 R => ⟨sI h1 m 0 0, Rs.I 0 0 (by decide), ?_⟩)
        · have e9 := fig_b L (Int32.ofNat k) (Int32.ofNat u) (Int32.ofNat v) d f 2 n20
          simp (disch := omega) only [mX11_figure, mX11_figure_b41, lK0 L, e1, n10, lR0_2 L, lK56 L, e2, hd, and_self, p_within, hf, e9, o_bind, o_map, b_rcv, b_gI, b_gL, b_gR, b_gN, b_pI, b_pL, b_pR, b_gAI, b_gAL, b_gAR, b_pAI, b_pAL, bad_of, bad_l, Bool.false_eq_true, ↓reduceIte, Int32.reduceLT, Int32.reduceLE, Int32.reduceToNatClampNeg, Int32.reduceOfNat, Int32.reduceAdd, Int32.reduceSub, Int32.reduceMul, Nat.reduceAdd, Nat.reduceMul, Nat.reduceEqDiff]
        · have R2 := R.th 0
          have M := R2.1.1
          have f1 := q_isCell1 R2 W hk hu hv
          have s3 := R2.2.1.2.2.2.2.2.2.2.1
          have e5 := q_lost M 2
          simp (disch := omega) only [mX16_figure, mX16_figure_b44, qK0 R.1.1, e_K_sI, f1, n10, s3, q_in, hd, hf, and_self, e5, o_bind, o_map, b_rcv, b_gI, b_gL, b_gR, b_gN, b_pI, b_pL, b_pR, b_gAI, b_gAL, b_gAR, b_pAI, b_pAL, bad_of, bad_l, Bool.false_eq_true, ↓reduceIte, Int32.reduceLT, Int32.reduceLE, Int32.reduceToNatClampNeg, Int32.reduceOfNat, Int32.reduceAdd, Int32.reduceSub, Int32.reduceMul, Nat.reduceAdd, Nat.reduceMul, Nat.reduceEqDiff]
    · refine XS.no (v := -9223372036854775808) 2 (by decide) C W (fun _ _ => Or.inr trivial) ?_ (fun h1 R => ⟨sI h1 m 0 0, Rs.I 0 0 (by decide), ?_⟩)
      · have e9 := fig_b L (Int32.ofNat k) (Int32.ofNat u) (Int32.ofNat v) d f 2 n20
        simp (disch := omega) only [mX11_figure, mX11_figure_b41, lK0 L, e1, n10, lR0_2 L, lK56 L, e2, hd, e9, o_bind, o_map, b_rcv, b_gI, b_gL, b_gR, b_gN, b_pI, b_pL, b_pR, b_gAI, b_gAL, b_gAR, b_pAI, b_pAL, bad_of, bad_l, Bool.false_eq_true, ↓reduceIte, Int32.reduceLT, Int32.reduceLE, Int32.reduceToNatClampNeg, Int32.reduceOfNat, Int32.reduceAdd, Int32.reduceSub, Int32.reduceMul, Nat.reduceAdd, Nat.reduceMul, Nat.reduceEqDiff]
      · have R2 := R.th 0
        have M := R2.1.1
        have f1 := q_isCell1 R2 W hk hu hv
        have s3 := R2.2.1.2.2.2.2.2.2.2.1
        have e5 := q_lost M 2
        simp (disch := omega) only [mX16_figure, mX16_figure_b44, qK0 R.1.1, e_K_sI, f1, n10, s3, q_in, hd, e5, o_bind, o_map, b_rcv, b_gI, b_gL, b_gR, b_gN, b_pI, b_pL, b_pR, b_gAI, b_gAL, b_gAR, b_pAI, b_pAL, bad_of, bad_l, Bool.false_eq_true, ↓reduceIte, Int32.reduceLT, Int32.reduceLE, Int32.reduceToNatClampNeg, Int32.reduceOfNat, Int32.reduceAdd, Int32.reduceSub, Int32.reduceMul, Nat.reduceAdd, Nat.reduceMul, Nat.reduceEqDiff]
  · have e1 := p_hasCell0 C W hc
    refine XS.no (v := -9223372036854775808) 1 (by decide) C W (fun _ _ => Or.inr trivial) ?_ (fun h1 R => ⟨sI h1 m 0 0, Rs.I 0 0 (by decide), ?_⟩)
    · rw [mX11_figure, b_rcv, if_pos (lK0 L), e1, o_bind, if_pos rfl, fig_b L _ _ _ _ _ 1 n10]
    · have R2 := R.th 0
      have M := R2.1.1
      have f1 := q_isCell0 R2 W hc
      have e5 := q_lost M 1
      simp (disch := omega) only [mX16_figure, qK0 R.1.1, e_K_sI, f1, e5, o_bind, o_map, b_rcv, b_gI, b_gL, b_gR, b_gN, b_pI, b_pL, b_pR, b_gAI, b_gAL, b_gAR, b_pAI, b_pAL, bad_of, bad_l, Bool.false_eq_true, ↓reduceIte, Int32.reduceLT, Int32.reduceLE, Int32.reduceToNatClampNeg, Int32.reduceOfNat, Int32.reduceAdd, Int32.reduceSub, Int32.reduceMul, Nat.reduceAdd, Nat.reduceMul, Nat.reduceEqDiff]

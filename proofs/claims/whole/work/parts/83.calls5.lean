/-! far, span -/
theorem far_b {c : Nat} {h : MHp} (L : CL c h) (t i j d f v : Int32) (hv : ¬ v = 0) : mX11_far_b44 h c t i j d f (some c) v = some (-9223372036854775808, sI h c 15 v) := by
  have K : hK (sI h c 15 v) c = 12 := lK0 L
  rw [mX11_far_b44, b_pI, if_pos (lK0 L), b_gI, if_pos K, e_Iself, if_neg hv]
theorem p_cellAt {h : MHp} {p u v : Nat} {B : Bk} {P : Pl} (I : IsP h p) (C : CP h p B P) : mX7_cellAt h p (Int32.ofNat u) (Int32.ofNat v) = some (Int32.ofNat (u * vs B (pI2 P) + v)) := by
  rw [mX7_cellAt, b_gI, if_pos I.1, C.2.2.2.2.1, ofNat_mul_add]
theorem x_far {c m : Nat} {h : MHp} {A : AS} (C : CR c h A) (W : WA A) (t i j d d2 : Int32) : XS c m h A (mX11_far h c t i j d d2) (fun h1 => mX16_far h1 m t i j d d2) := by
  have L := C.l
  by_cases hc : isC A t i j
  · obtain ⟨k, u, v, hk, hu, hv, rfl, rfl, rfl⟩ := hc
    have e1 := p_hasCell1 C W hk hu hv
    have e2 := p_isDay L d
    have e3 := p_isDay L d2
    rw [C.td] at e2 e3
    by_cases hd : 0 ≤ d ∧ d ≤ aS A 3
    · by_cases hd2 : 0 ≤ d2 ∧ d2 ≤ aS A 3
      · have C2 : CR c (sI h c 15 0) (tb A 0) := C.tb (by decide)
        have e4 := p_hasTable1 C2 (W.tb (t := 0)) hk
        obtain ⟨p1, p2, p3, p4, p5⟩ := C2.plan (W.tb (t := 0)) hk
        have e5 := p_cellAt (u := u) (v := v) p1 p3
        obtain ⟨h2, g1, S⟩ := p_sumOf (d := d2) C2 (W.tb (t := 0)) hk (show 0 < 5 by omega) hu hv
        have C3 := C2.sc (W.tb (t := 0)) S
        obtain ⟨p11, p12, p13, p14, p15⟩ := C3.plan (W.tb (t := 0)) hk
        obtain ⟨h3, g2, S2⟩ := p_sumOf (d := d) C3 (W.tb (t := 0)) hk (show 0 < 5 by omega) hu hv
        have L2 := C3.l
        have h8 := W.2.2.1
        refine ⟨figA A (aP A k) (Int32.ofNat u) (Int32.ofNat v) d2 0 - figA A (aP A k) (Int32.ofNat u) (Int32.ofNat v) d 0, tb A 0, W, ⟨h3, ?_, C3.sc (W.tb (t := 0)) S2, ((Oc.I0 15 0).tr S.oc).tr S2.oc⟩, fun h1 R => ?_⟩
        · have i1 := p1.1
          rw [e_K_sI] at i1
          have g3 : mX2_sumOf (sI h c 15 0) (c + 192) (some (c + 120 + 7 * k)) (Int32.ofNat (u * vs (aB A) (pI2 (aP A k)) + v)) d2 0 = some (figA A (aP A k) (Int32.ofNat u) (Int32.ofNat v) d2 0, h2) := g1
          have g4 : mX2_sumOf h2 (c + 192) (some (c + 120 + 7 * k)) (Int32.ofNat (u * vs (aB A) (pI2 (aP A k)) + v)) d 0 = some (figA A (aP A k) (Int32.ofNat u) (Int32.ofNat v) d 0, h3) := g2
          have e6 : mX7_cellAt (sI h c 15 0) (c + 120 + 7 * k) (Int32.ofNat u) (Int32.ofNat v) = some (Int32.ofNat (u * vs (aB A) (pI2 (aP A k)) + v)) := e5
          rw [e_AR_sI] at p2
          simp (maxSteps := 3000000) (disch := omega) only [mX11_far, lK0 L, e1, n10, lR0_2 L, lK56 L, e2, e3, hd, hd2, and_self, ↓o_bind, o_map, ↓b_rcv, ↓b_gI, ↓b_gL, ↓b_gR, ↓b_gN, ↓b_pI, ↓b_pL, ↓b_pR, ↓b_gAI, ↓b_gAL, ↓b_gAR, ↓b_pAI, ↓b_pAL, bad_of, bad_l, Bool.false_eq_true, ↓reduceIte, Int32.reduceLT, Int32.reduceLE, Int32.reduceToNatClampNeg, Int32.reduceOfNat, Int32.reduceAdd, Int32.reduceSub, Int32.reduceMul, Nat.reduceAdd, Nat.reduceMul, Nat.reduceEqDiff]
          rw [mX11_far_b44]
          simp (maxSteps := 3000000) (disch := omega) only [lK0 L, n10, e_Iself, e_K_sI, e_R_sI, e_N_sI, e_AR_sI, e4, lR0_7 L, lR0_3 L, lK119 L, lN119 L, cl_of, p2, i1, e6, lK192 L, g3, ↓o_bind, o_map, ↓b_rcv, ↓b_gI, ↓b_gL, ↓b_gR, ↓b_gN, ↓b_pI, ↓b_pL, ↓b_pR, ↓b_gAI, ↓b_gAL, ↓b_gAR, ↓b_pAI, ↓b_pAL, bad_of, bad_l, Bool.false_eq_true, ↓reduceIte, Int32.reduceLT, Int32.reduceLE, Int32.reduceToNatClampNeg, Int32.reduceOfNat, Int32.reduceAdd, Int32.reduceSub, Int32.reduceMul, Nat.reduceAdd, Nat.reduceMul, Nat.reduceEqDiff]
          simp (maxSteps := 3000000) (disch := omega) only [lK0 L2, lR0_7 L2, lR0_3 L2, lK119 L2, lN119 L2, cl_of, p12, lK192 L2, g4, ↓o_bind, o_map, ↓b_rcv, ↓b_gI, ↓b_gL, ↓b_gR, ↓b_gN, ↓b_pI, ↓b_pL, ↓b_pR, ↓b_gAI, ↓b_gAL, ↓b_gAR, ↓b_pAI, ↓b_pAL, bad_of, bad_l, Bool.false_eq_true, ↓reduceIte, Int32.reduceLT, Int32.reduceLE, Int32.reduceToNatClampNeg, Int32.reduceOfNat, Int32.reduceAdd, Int32.reduceSub, Int32.reduceMul, Nat.reduceAdd, Nat.reduceMul, Nat.reduceEqDiff]
        · have R2 := R.th 0
          have M := R2.1.1
          have f1 := q_isCell1 R2 W hk hu hv
          have s3 := R2.2.1.2.2.2.2.2.2.2.1
          obtain ⟨b, Q⟩ := R2.rq W (W.post hk)
          obtain ⟨p, pp1, pp2, -⟩ := q_table R2 hk
          obtain ⟨h4, g3, S3⟩ := q_figure (i := Int32.ofNat u) (j := Int32.ofNat v) (d := d2) Q pp2 (show 0 < 5 by omega) p5
          have M3 := S3.QL M
          have Q3 := Q.sc S3
          have R3 := R2.sc S3
          have pp3 := pp2.ag (S3.out (Or.inr (by omega))) (by rw [S3.2.2.2.2.1]; omega)
          obtain ⟨h5, g5, S5⟩ := q_figure (i := Int32.ofNat u) (j := Int32.ofNat v) (d := d) Q3 pp3 (show 0 < 5 by omega) p5
          have M5 := S5.QL M3
          have e9 := q_told M5 (figA A (aP A k) (Int32.ofNat u) (Int32.ofNat v) d2 0 - figA A (aP A k) (Int32.ofNat u) (Int32.ofNat v) d 0)
          have pp4 : hAR h4 (m + 1) k = some p := by rw [S3.2.2.2.1]; exact pp1
          have g6 : mX16_figureOf (sI h1 m 0 0) m (some p) (Int32.ofNat u) (Int32.ofNat v) d2 0 = some (figA A (aP A k) (Int32.ofNat u) (Int32.ofNat v) d2 0, h4) := g3
          have g7 : mX16_figureOf h4 m (some p) (Int32.ofNat u) (Int32.ofNat v) d 0 = some (figA A (aP A k) (Int32.ofNat u) (Int32.ofNat v) d 0, h5) := g5
          refine ⟨rtb m h5 0, ?_, (R3.sc S5).tb (by decide), (((Om.th 0).tr S3.om).tr S5.om).tr Om.tb⟩
          rw [e_AR_sI] at pp1
          simp (maxSteps := 3000000) (disch := omega) only [mX16_far, qK0 R.1.1, e_K_sI, f1, n10, s3, q_in, hd, hd2, and_self, qR6 M, qK1 R.1.1, qN1 M, cl_of, e_AR_sI, pp1, g6, ↓o_bind, o_map, ↓b_rcv, ↓b_gI, ↓b_gL, ↓b_gR, ↓b_gN, ↓b_pI, ↓b_pL, ↓b_pR, ↓b_gAI, ↓b_gAL, ↓b_gAR, ↓b_pAI, ↓b_pAL, bad_of, bad_l, Bool.false_eq_true, ↓reduceIte, Int32.reduceLT, Int32.reduceLE, Int32.reduceToNatClampNeg, Int32.reduceOfNat, Int32.reduceAdd, Int32.reduceSub, Int32.reduceMul, Nat.reduceAdd, Nat.reduceMul, Nat.reduceEqDiff]
          simp (maxSteps := 3000000) (disch := omega) only [qK0 M3, qR6 M3, qK1 M3, qN1 M3, cl_of, pp4, g7, ↓o_bind, o_map, ↓b_rcv, ↓b_gI, ↓b_gL, ↓b_gR, ↓b_gN, ↓b_pI, ↓b_pL, ↓b_pR, ↓b_gAI, ↓b_gAL, ↓b_gAR, ↓b_pAI, ↓b_pAL, bad_of, bad_l, Bool.false_eq_true, ↓reduceIte, Int32.reduceLT, Int32.reduceLE, Int32.reduceToNatClampNeg, Int32.reduceOfNat, Int32.reduceAdd, Int32.reduceSub, Int32.reduceMul, Nat.reduceAdd, Nat.reduceMul, Nat.reduceEqDiff]
          simp (maxSteps := 3000000) (disch := omega) only [qK0 M5, e9, ↓o_bind, o_map, ↓b_rcv, ↓b_gI, ↓b_gL, ↓b_gR, ↓b_gN, ↓b_pI, ↓b_pL, ↓b_pR, ↓b_gAI, ↓b_gAL, ↓b_gAR, ↓b_pAI, ↓b_pAL, bad_of, bad_l, Bool.false_eq_true, ↓reduceIte, Int32.reduceLT, Int32.reduceLE, Int32.reduceToNatClampNeg, Int32.reduceOfNat, Int32.reduceAdd, Int32.reduceSub, Int32.reduceMul, Nat.reduceAdd, Nat.reduceMul, Nat.reduceEqDiff]
      · refine XS.no (v := -9223372036854775808) 2 (by decide) C W (fun _ _ => Or.inr trivial) ?_ (fun h1 R => ⟨sI h1 m 0 0, Rs.I 0 0 (by decide), ?_⟩)
        · have e9 := far_b L (Int32.ofNat k) (Int32.ofNat u) (Int32.ofNat v) d d2 2 n20
          simp (maxSteps := 3000000) (disch := omega) only [mX11_far, mX11_far_b43, lK0 L, e1, n10, lR0_2 L, lK56 L, e2, e3, hd, hd2, and_self, e9, ↓o_bind, o_map, ↓b_rcv, ↓b_gI, ↓b_gL, ↓b_gR, ↓b_gN, ↓b_pI, ↓b_pL, ↓b_pR, ↓b_gAI, ↓b_gAL, ↓b_gAR, ↓b_pAI, ↓b_pAL, bad_of, bad_l, Bool.false_eq_true, ↓reduceIte, Int32.reduceLT, Int32.reduceLE, Int32.reduceToNatClampNeg, Int32.reduceOfNat, Int32.reduceAdd, Int32.reduceSub, Int32.reduceMul, Nat.reduceAdd, Nat.reduceMul, Nat.reduceEqDiff]
        · have R2 := R.th 0
          have M := R2.1.1
          have f1 := q_isCell1 R2 W hk hu hv
          have s3 := R2.2.1.2.2.2.2.2.2.2.1
          have e5 := q_lost M 2
          simp (maxSteps := 3000000) (disch := omega) only [mX16_far, mX16_far_b47, qK0 R.1.1, e_K_sI, f1, n10, s3, q_in, hd, hd2, and_self, e5, ↓o_bind, o_map, ↓b_rcv, ↓b_gI, ↓b_gL, ↓b_gR, ↓b_gN, ↓b_pI, ↓b_pL, ↓b_pR, ↓b_gAI, ↓b_gAL, ↓b_gAR, ↓b_pAI, ↓b_pAL, bad_of, bad_l, Bool.false_eq_true, ↓reduceIte, Int32.reduceLT, Int32.reduceLE, Int32.reduceToNatClampNeg, Int32.reduceOfNat, Int32.reduceAdd, Int32.reduceSub, Int32.reduceMul, Nat.reduceAdd, Nat.reduceMul, Nat.reduceEqDiff]
    · refine XS.no (v := -9223372036854775808) 2 (by decide) C W (fun _ _ => Or.inr trivial) ?_ (fun h1 R => ⟨sI h1 m 0 0, Rs.I 0 0 (by decide), ?_⟩)
      · have e9 := far_b L (Int32.ofNat k) (Int32.ofNat u) (Int32.ofNat v) d d2 2 n20
        simp (maxSteps := 3000000) (disch := omega) only [mX11_far, mX11_far_b43, lK0 L, e1, n10, lR0_2 L, lK56 L, e2, hd, e9, ↓o_bind, o_map, ↓b_rcv, ↓b_gI, ↓b_gL, ↓b_gR, ↓b_gN, ↓b_pI, ↓b_pL, ↓b_pR, ↓b_gAI, ↓b_gAL, ↓b_gAR, ↓b_pAI, ↓b_pAL, bad_of, bad_l, Bool.false_eq_true, ↓reduceIte, Int32.reduceLT, Int32.reduceLE, Int32.reduceToNatClampNeg, Int32.reduceOfNat, Int32.reduceAdd, Int32.reduceSub, Int32.reduceMul, Nat.reduceAdd, Nat.reduceMul, Nat.reduceEqDiff]
      · have R2 := R.th 0
        have M := R2.1.1
        have f1 := q_isCell1 R2 W hk hu hv
        have s3 := R2.2.1.2.2.2.2.2.2.2.1
        have e5 := q_lost M 2
        simp (maxSteps := 3000000) (disch := omega) only [mX16_far, mX16_far_b47, qK0 R.1.1, e_K_sI, f1, n10, s3, q_in, hd, e5, ↓o_bind, o_map, ↓b_rcv, ↓b_gI, ↓b_gL, ↓b_gR, ↓b_gN, ↓b_pI, ↓b_pL, ↓b_pR, ↓b_gAI, ↓b_gAL, ↓b_gAR, ↓b_pAI, ↓b_pAL, bad_of, bad_l, Bool.false_eq_true, ↓reduceIte, Int32.reduceLT, Int32.reduceLE, Int32.reduceToNatClampNeg, Int32.reduceOfNat, Int32.reduceAdd, Int32.reduceSub, Int32.reduceMul, Nat.reduceAdd, Nat.reduceMul, Nat.reduceEqDiff]
  · have e1 := p_hasCell0 C W hc
    refine XS.no (v := -9223372036854775808) 1 (by decide) C W (fun _ _ => Or.inr trivial) ?_ (fun h1 R => ⟨sI h1 m 0 0, Rs.I 0 0 (by decide), ?_⟩)
    · rw [mX11_far, b_rcv, if_pos (lK0 L), e1, o_bind, if_pos rfl, far_b L _ _ _ _ _ 1 n10]
    · have R2 := R.th 0
      have M := R2.1.1
      have f1 := q_isCell0 R2 W hc
      have e5 := q_lost M 1
      simp (maxSteps := 3000000) (disch := omega) only [mX16_far, qK0 R.1.1, e_K_sI, f1, e5, ↓o_bind, o_map, ↓b_rcv, ↓b_gI, ↓b_gL, ↓b_gR, ↓b_gN, ↓b_pI, ↓b_pL, ↓b_pR, ↓b_gAI, ↓b_gAL, ↓b_gAR, ↓b_pAI, ↓b_pAL, bad_of, bad_l, Bool.false_eq_true, ↓reduceIte, Int32.reduceLT, Int32.reduceLE, Int32.reduceToNatClampNeg, Int32.reduceOfNat, Int32.reduceAdd, Int32.reduceSub, Int32.reduceMul, Nat.reduceAdd, Nat.reduceMul, Nat.reduceEqDiff]
theorem spn_b {c : Nat} {h : MHp} (L : CL c h) (t i j d v : Int32) (hv : ¬ v = 0) : mX11_span_b16 h c t i j d (some c) v = some (-9223372036854775808, sI h c 15 v) := by
  have K : hK (sI h c 15 v) c = 12 := lK0 L
  rw [mX11_span_b16, b_pI, if_pos (lK0 L), b_gI, if_pos K, e_Iself, if_neg hv]
/-- the least or the most, from a filling on -/
def spA (F : Nat → Int64) (mx : Int32) : Nat → Nat → Int64 → Int64
  | 0, _, a => a
  | q + 1, k, a => spA F mx q (k + 1) (if mx = 0 then (if 0 < lg_cmp a (F k) then F k else a) else (if lg_cmp a (F k) < 0 then F k else a))
theorem spA_0 (F : Nat → Int64) (mx : Int32) (k : Nat) (a : Int64) : spA F mx 0 k a = a := (rfl)
theorem spA_s (F : Nat → Int64) (mx : Int32) (q k : Nat) (a : Int64) : spA F mx (q + 1) k a = spA F mx q (k + 1) (if mx = 0 then (if 0 < lg_cmp a (F k) then F k else a) else (if lg_cmp a (F k) < 0 then F k else a)) := (rfl)
theorem j_min (h : MHp) (a b : Int64) : mJ9_min_f86c9 h a b = some (if 0 < lg_cmp a b then b else a) := by
  unfold mJ9_min_f86c9; by_cases e : 0 < lg_cmp a b <;> simp [e]
theorem j_max (h : MHp) (a b : Int64) : mJ9_max_f86c9 h a b = some (if lg_cmp a b < 0 then b else a) := by
  unfold mJ9_max_f86c9; by_cases e : lg_cmp a b < 0 <;> simp [e]
theorem c_span {c k u v : Nat} {A : AS} {mx : Int32} (W : WA A) (hk : k < aN A 1) (hu : u < vs (aB A) (pI1 (aP A k))) (hv : v < vs (aB A) (pI2 (aP A k))) : ∀ (q fu f : Nat) (h : MHp) (a : Int64), CR c h A → f + q = 5 → q < fu → ∃ h' : MHp, mX11_span_l79 fu h c (Int32.ofNat k) mx (Int32.ofNat (u * vs (aB A) (pI2 (aP A k)) + v)) a (Int32.ofNat f) = some (spA (fun f => figA A (aP A k) (Int32.ofNat u) (Int32.ofNat v) (aS A 3) f) mx q f a, h') ∧ Sc c h h' := by
  intro q
  induction q with
  | zero =>
    intro fu f h a C hf hfu
    obtain ⟨fu, rfl⟩ : ∃ g : Nat, fu = g + 1 := ⟨fu - 1, by omega⟩
    refine ⟨h, ?_, Sc.rf⟩
    have e : (5 : Int32) ≤ Int32.ofNat f := by rw [show (5 : Int32) = Int32.ofNat 5 from rfl, le_of (by omega) (by omega)]; omega
    rw [mX11_span_l79, if_pos e, spA_0]
  | succ q ih =>
    intro fu f h a C hf hfu
    obtain ⟨fu, rfl⟩ : ∃ g : Nat, fu = g + 1 := ⟨fu - 1, by omega⟩
    have L := C.l
    have e : ¬ (5 : Int32) ≤ Int32.ofNat f := by rw [show (5 : Int32) = Int32.ofNat 5 from rfl, le_of (by omega) (by omega)]; omega
    obtain ⟨p1, p2, p3, p4, p5⟩ := C.plan W hk
    obtain ⟨h2, g1, S⟩ := p_sumOf (d := aS A 3) C W hk (show f < 5 by omega) hu hv
    have h8 := W.2.2.1
    have td := C.td
    obtain ⟨h3, g2, S2⟩ := ih fu (f + 1) h2 (if mx = 0 then (if 0 < lg_cmp a (figA A (aP A k) (Int32.ofNat u) (Int32.ofNat v) (aS A 3) f) then figA A (aP A k) (Int32.ofNat u) (Int32.ofNat v) (aS A 3) f else a) else (if lg_cmp a (figA A (aP A k) (Int32.ofNat u) (Int32.ofNat v) (aS A 3) f) < 0 then figA A (aP A k) (Int32.ofNat u) (Int32.ofNat v) (aS A 3) f else a)) (C.sc W S) (by omega) (by omega)
    refine ⟨h3, ?_, S.tr S2⟩
    rw [spA_s, ← g2]
    by_cases hm : mx = 0
    · simp (maxSteps := 3000000) (disch := omega) only [mX11_span_l79, mX11_span_b133, e, lK0 L, lR0_7 L, lR0_3 L, lK119 L, lN119 L, cl_of, p2, lR0_2 L, lK56 L, td, lK192 L, g1, hm, j_min, s1_of, ↓o_bind, o_map, ↓b_rcv, ↓b_gI, ↓b_gL, ↓b_gR, ↓b_gN, ↓b_pI, ↓b_pL, ↓b_pR, ↓b_gAI, ↓b_gAL, ↓b_gAR, ↓b_pAI, ↓b_pAL, bad_of, bad_l, Bool.false_eq_true, ↓reduceIte, Int32.reduceLT, Int32.reduceLE, Int32.reduceToNatClampNeg, Int32.reduceOfNat, Int32.reduceAdd, Int32.reduceSub, Int32.reduceMul, Nat.reduceAdd, Nat.reduceMul, Nat.reduceEqDiff]
    · simp (maxSteps := 3000000) (disch := omega) only [mX11_span_l79, mX11_span_b133, e, lK0 L, lR0_7 L, lR0_3 L, lK119 L, lN119 L, cl_of, p2, lR0_2 L, lK56 L, td, lK192 L, g1, hm, j_max, s1_of, ↓o_bind, o_map, ↓b_rcv, ↓b_gI, ↓b_gL, ↓b_gR, ↓b_gN, ↓b_pI, ↓b_pL, ↓b_pR, ↓b_gAI, ↓b_gAL, ↓b_gAR, ↓b_pAI, ↓b_pAL, bad_of, bad_l, Bool.false_eq_true, ↓reduceIte, Int32.reduceLT, Int32.reduceLE, Int32.reduceToNatClampNeg, Int32.reduceOfNat, Int32.reduceAdd, Int32.reduceSub, Int32.reduceMul, Nat.reduceAdd, Nat.reduceMul, Nat.reduceEqDiff]
theorem r_span {m k u v : Nat} {A : AS} {mx : Int32} (W : WA A) (hk : k < aN A 1) : ∀ (q fu f : Nat) (h : MHp) (a : Int64), RR m h A → f + q = 5 → q < fu → ∃ h' : MHp, mX16_span_l43 fu h m (Int32.ofNat k) (Int32.ofNat u) (Int32.ofNat v) mx a (Int32.ofNat f) = some (spA (fun f => figA A (aP A k) (Int32.ofNat u) (Int32.ofNat v) (aS A 3) f) mx q f a, rtb m h' 0) ∧ Rs m h h' := by
  intro q
  induction q with
  | zero =>
    intro fu f h a R hf hfu
    obtain ⟨fu, rfl⟩ : ∃ g : Nat, fu = g + 1 := ⟨fu - 1, by omega⟩
    refine ⟨h, ?_, Rs.rf⟩
    have e : (5 : Int32) ≤ Int32.ofNat f := by rw [show (5 : Int32) = Int32.ofNat 5 from rfl, le_of (by omega) (by omega)]; omega
    rw [mX16_span_l43, if_pos e, spA_0, b_rcv, if_pos (qK0 R.1.1), q_told R.1.1, o_bind]
  | succ q ih =>
    intro fu f h a R hf hfu
    obtain ⟨fu, rfl⟩ : ∃ g : Nat, fu = g + 1 := ⟨fu - 1, by omega⟩
    have L := R.1.1
    have e : ¬ (5 : Int32) ≤ Int32.ofNat f := by rw [show (5 : Int32) = Int32.ofNat 5 from rfl, le_of (by omega) (by omega)]; omega
    obtain ⟨b, Q⟩ := R.rq W (W.post hk)
    obtain ⟨p, pp1, pp2, -⟩ := q_table R hk
    have w5 := W.2.2.2.2.2.1 k hk
    obtain ⟨h2, g1, S⟩ := q_figure (i := Int32.ofNat u) (j := Int32.ofNat v) (d := aS A 3) Q pp2 (show f < 5 by omega) w5
    have h8 := W.2.2.1
    have s3 := R.2.1.2.2.2.2.2.2.2.1
    obtain ⟨h3, g2, S2⟩ := ih fu (f + 1) h2 (if mx = 0 then (if 0 < lg_cmp a (figA A (aP A k) (Int32.ofNat u) (Int32.ofNat v) (aS A 3) f) then figA A (aP A k) (Int32.ofNat u) (Int32.ofNat v) (aS A 3) f else a) else (if lg_cmp a (figA A (aP A k) (Int32.ofNat u) (Int32.ofNat v) (aS A 3) f) < 0 then figA A (aP A k) (Int32.ofNat u) (Int32.ofNat v) (aS A 3) f else a)) (R.sc S) (by omega) (by omega)
    refine ⟨h3, ?_, S.tr S2⟩
    rw [spA_s, ← g2]
    by_cases hm : mx = 0
    · simp (maxSteps := 3000000) (disch := omega) only [mX16_span_l43, mX16_span_b91, e, qK0 L, qR6 L, qK1 L, qN1 L, cl_of, pp1, s3, g1, hm, j_min, s1_of, ↓o_bind, o_map, ↓b_rcv, ↓b_gI, ↓b_gL, ↓b_gR, ↓b_gN, ↓b_pI, ↓b_pL, ↓b_pR, ↓b_gAI, ↓b_gAL, ↓b_gAR, ↓b_pAI, ↓b_pAL, bad_of, bad_l, Bool.false_eq_true, ↓reduceIte, Int32.reduceLT, Int32.reduceLE, Int32.reduceToNatClampNeg, Int32.reduceOfNat, Int32.reduceAdd, Int32.reduceSub, Int32.reduceMul, Nat.reduceAdd, Nat.reduceMul, Nat.reduceEqDiff]
    · simp (maxSteps := 3000000) (disch := omega) only [mX16_span_l43, mX16_span_b91, e, qK0 L, qR6 L, qK1 L, qN1 L, cl_of, pp1, s3, g1, hm, j_max, s1_of, ↓o_bind, o_map, ↓b_rcv, ↓b_gI, ↓b_gL, ↓b_gR, ↓b_gN, ↓b_pI, ↓b_pL, ↓b_pR, ↓b_gAI, ↓b_gAL, ↓b_gAR, ↓b_pAI, ↓b_pAL, bad_of, bad_l, Bool.false_eq_true, ↓reduceIte, Int32.reduceLT, Int32.reduceLE, Int32.reduceToNatClampNeg, Int32.reduceOfNat, Int32.reduceAdd, Int32.reduceSub, Int32.reduceMul, Nat.reduceAdd, Nat.reduceMul, Nat.reduceEqDiff]
theorem x_span {c m : Nat} {h : MHp} {A : AS} (C : CR c h A) (W : WA A) (t i j mx : Int32) : XS c m h A (mX11_span h c t i j mx) (fun h1 => mX16_span h1 m t i j mx) := by
  have L := C.l
  by_cases hc : isC A t i j
  · obtain ⟨k, u, v, hk, hu, hv, rfl, rfl, rfl⟩ := hc
    have e1 := p_hasCell1 C W hk hu hv
    have C2 : CR c (sI h c 15 0) (tb A 0) := C.tb (by decide)
    have e4 := p_hasTable1 C2 (W.tb (t := 0)) hk
    obtain ⟨p1, p2, p3, p4, p5⟩ := C2.plan (W.tb (t := 0)) hk
    have e5 := p_cellAt (u := u) (v := v) p1 p3
    obtain ⟨h2, g1, S⟩ := p_sumOf (d := aS A 3) C2 (W.tb (t := 0)) hk (show 0 < 5 by omega) hu hv
    have C3 := C2.sc (W.tb (t := 0)) S
    obtain ⟨h3, g2, S2⟩ := c_span (A := tb A 0) (mx := mx) (W.tb (t := 0)) hk hu hv 4 FUEL 1 h2 (figA A (aP A k) (Int32.ofNat u) (Int32.ofNat v) (aS A 3) 0) C3 (by omega) (by unfold FUEL; omega)
    have h8 := W.2.2.1
    have td : hI (sI h c 15 0) (c + 56) 7 = aS A 3 := C2.td
    refine ⟨spA (fun f => figA A (aP A k) (Int32.ofNat u) (Int32.ofNat v) (aS A 3) f) mx 4 1 (figA A (aP A k) (Int32.ofNat u) (Int32.ofNat v) (aS A 3) 0), tb A 0, W, ⟨h3, ?_, C3.sc (W.tb (t := 0)) S2, ((Oc.I0 15 0).tr S.oc).tr S2.oc⟩, fun h1 R => ?_⟩
    · have i1 := p1.1
      rw [e_K_sI] at i1
      have g3 : mX2_sumOf (sI h c 15 0) (c + 192) (some (c + 120 + 7 * k)) (Int32.ofNat (u * vs (aB A) (pI2 (aP A k)) + v)) (aS A 3) 0 = some (figA A (aP A k) (Int32.ofNat u) (Int32.ofNat v) (aS A 3) 0, h2) := g1
      have g4 : mX11_span_l79 FUEL h2 c (Int32.ofNat k) mx (Int32.ofNat (u * vs (aB A) (pI2 (aP A k)) + v)) (figA A (aP A k) (Int32.ofNat u) (Int32.ofNat v) (aS A 3) 0) 1 = some (spA (fun f => figA A (aP A k) (Int32.ofNat u) (Int32.ofNat v) (aS A 3) f) mx 4 1 (figA A (aP A k) (Int32.ofNat u) (Int32.ofNat v) (aS A 3) 0), h3) := g2
      have e6 : mX7_cellAt (sI h c 15 0) (c + 120 + 7 * k) (Int32.ofNat u) (Int32.ofNat v) = some (Int32.ofNat (u * vs (aB A) (pI2 (aP A k)) + v)) := e5
      rw [e_AR_sI] at p2
      rw [mX11_span, b_rcv, if_pos (lK0 L), e1, o_bind, if_neg n10, mX11_span_b16]
      simp (maxSteps := 3000000) (disch := omega) only [lK0 L, n10, e_Iself, e_K_sI, e_R_sI, e_N_sI, e_AR_sI, e4, lR0_7 L, lR0_3 L, lK119 L, lN119 L, cl_of, p2, i1, e6, lR0_2 L, lK56 L, td, lK192 L, g3, g4, ↓o_bind, o_map, ↓b_rcv, ↓b_gI, ↓b_gL, ↓b_gR, ↓b_gN, ↓b_pI, ↓b_pL, ↓b_pR, ↓b_gAI, ↓b_gAL, ↓b_gAR, ↓b_pAI, ↓b_pAL, bad_of, bad_l, Bool.false_eq_true, ↓reduceIte, Int32.reduceLT, Int32.reduceLE, Int32.reduceToNatClampNeg, Int32.reduceOfNat, Int32.reduceAdd, Int32.reduceSub, Int32.reduceMul, Nat.reduceAdd, Nat.reduceMul, Nat.reduceEqDiff]
    · have R2 := R.th 0
      have M := R2.1.1
      have f1 := q_isCell1 R2 W hk hu hv
      have s3 := R2.2.1.2.2.2.2.2.2.2.1
      obtain ⟨b, Q⟩ := R2.rq W (W.post hk)
      obtain ⟨p, pp1, pp2, -⟩ := q_table R2 hk
      obtain ⟨h4, g3, S3⟩ := q_figure (i := Int32.ofNat u) (j := Int32.ofNat v) (d := aS A 3) Q pp2 (show 0 < 5 by omega) p5
      have R3 := R2.sc S3
      obtain ⟨h5, g5, S5⟩ := r_span (u := u) (v := v) (mx := mx) W hk 4 FUEL 1 h4 (figA A (aP A k) (Int32.ofNat u) (Int32.ofNat v) (aS A 3) 0) R3 (by omega) (by unfold FUEL; omega)
      have g6 : mX16_figureOf (sI h1 m 0 0) m (some p) (Int32.ofNat u) (Int32.ofNat v) (aS A 3) 0 = some (figA A (aP A k) (Int32.ofNat u) (Int32.ofNat v) (aS A 3) 0, h4) := g3
      have g7 : mX16_span_l43 FUEL h4 m (Int32.ofNat k) (Int32.ofNat u) (Int32.ofNat v) mx (figA A (aP A k) (Int32.ofNat u) (Int32.ofNat v) (aS A 3) 0) 1 = some (spA (fun f => figA A (aP A k) (Int32.ofNat u) (Int32.ofNat v) (aS A 3) f) mx 4 1 (figA A (aP A k) (Int32.ofNat u) (Int32.ofNat v) (aS A 3) 0), rtb m h5 0) := g5
      refine ⟨rtb m h5 0, ?_, (R3.sc S5).tb (by decide), (((Om.th 0).tr S3.om).tr S5.om).tr Om.tb⟩
      rw [e_AR_sI] at pp1
      simp (maxSteps := 3000000) (disch := omega) only [mX16_span, qK0 R.1.1, e_K_sI, f1, n10, s3, qR6 M, qK1 R.1.1, qN1 M, cl_of, e_AR_sI, pp1, g6, g7, ↓o_bind, o_map, ↓b_rcv, ↓b_gI, ↓b_gL, ↓b_gR, ↓b_gN, ↓b_pI, ↓b_pL, ↓b_pR, ↓b_gAI, ↓b_gAL, ↓b_gAR, ↓b_pAI, ↓b_pAL, bad_of, bad_l, Bool.false_eq_true, ↓reduceIte, Int32.reduceLT, Int32.reduceLE, Int32.reduceToNatClampNeg, Int32.reduceOfNat, Int32.reduceAdd, Int32.reduceSub, Int32.reduceMul, Nat.reduceAdd, Nat.reduceMul, Nat.reduceEqDiff]
  · have e1 := p_hasCell0 C W hc
    refine XS.no (v := -9223372036854775808) 1 (by decide) C W (fun _ _ => Or.inr trivial) ?_ (fun h1 R => ⟨sI h1 m 0 0, Rs.I 0 0 (by decide), ?_⟩)
    · rw [mX11_span, b_rcv, if_pos (lK0 L), e1, o_bind, if_pos rfl, spn_b L _ _ _ _ 1 n10]
    · have R2 := R.th 0
      have M := R2.1.1
      have f1 := q_isCell0 R2 W hc
      have e5 := q_lost M 1
      simp (maxSteps := 3000000) (disch := omega) only [mX16_span, qK0 R.1.1, e_K_sI, f1, e5, ↓o_bind, o_map, ↓b_rcv, ↓b_gI, ↓b_gL, ↓b_gR, ↓b_gN, ↓b_pI, ↓b_pL, ↓b_pR, ↓b_gAI, ↓b_gAL, ↓b_gAR, ↓b_pAI, ↓b_pAL, bad_of, bad_l, Bool.false_eq_true, ↓reduceIte, Int32.reduceLT, Int32.reduceLE, Int32.reduceToNatClampNeg, Int32.reduceOfNat, Int32.reduceAdd, Int32.reduceSub, Int32.reduceMul, Nat.reduceAdd, Nat.reduceMul, Nat.reduceEqDiff]

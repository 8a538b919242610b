/-! reading a field: the class's -/
def WBk (B : Bk) : Prop := WB B ∧ (∀ f : Nat, f < bF B → WL (bM B f)) ∧ spT B (bF B) ≤ 20000
theorem WBk.nw {B : Bk} (W : WBk B) : NW B := ⟨W.1.1, W.2.1⟩
def rfV (t : Tok) : Nat := (kV t).toNatClampNeg
def rfF (g : Nat → Int32) (n : Nat) (B : Bk) (t : Tok) : Int32 := if isN t = true then (if fN B (kL t) < bF B then 3 else (if bF B < 6 then (if dgF g n 7 (nxt g n t) = 0 then (if spT B (bF B) * (rfV (nxt g n (nxt g n t)) + 1) ≤ 20000 then dgF g n 8 (nxt g n (nxt g n (nxt g n t))) else 5) else dgF g n 7 (nxt g n t)) else 5)) else 1
def rfT (g : Nat → Int32) (n : Nat) (B : Bk) (t : Tok) : Tok := if isN t = true then (if fN B (kL t) < bF B then t else (if bF B < 6 then (if dgF g n 7 (nxt g n t) = 0 then (if spT B (bF B) * (rfV (nxt g n (nxt g n t)) + 1) ≤ 20000 then dgT g n 8 (nxt g n (nxt g n (nxt g n t))) else nxt g n (nxt g n t)) else dgT g n 7 (nxt g n t)) else t)) else t
def rfN (g : Nat → Int32) (n : Nat) (t : Tok) : Tok := nxt g n (nxt g n (nxt g n (nxt g n (nxt g n t))))
def rfB (g : Nat → Int32) (n : Nat) (B : Bk) (t : Tok) : Bk := addF B (kL t) (rfV (nxt g n (nxt g n t))) (rfV (nxt g n (nxt g n (nxt g n (nxt g n t)))))
theorem rfF_0 {g : Nat → Int32} {n : Nat} {B : Bk} {t : Tok} (h : rfF g n B t = 0) : isN t = true ∧ ¬ fN B (kL t) < bF B ∧ bF B < 6 ∧ dgF g n 7 (nxt g n t) = 0 ∧ spT B (bF B) * (rfV (nxt g n (nxt g n t)) + 1) ≤ 20000 ∧ dgF g n 8 (nxt g n (nxt g n (nxt g n t))) = 0 := by
  have n30 : ¬ (3 : Int32) = 0 := by decide
  unfold rfF at h
  by_cases a1 : isN t = true
  · rw [if_pos a1] at h
    by_cases a2 : fN B (kL t) < bF B
    · rw [if_pos a2] at h; exact absurd h n30
    · rw [if_neg a2] at h
      by_cases a3 : bF B < 6
      · rw [if_pos a3] at h
        by_cases a4 : dgF g n 7 (nxt g n t) = 0
        · rw [if_pos a4] at h
          by_cases a5 : spT B (bF B) * (rfV (nxt g n (nxt g n t)) + 1) ≤ 20000
          · rw [if_pos a5] at h; exact ⟨a1, a2, a3, a4, a5, h⟩
          · rw [if_neg a5] at h; exact absurd h n50
        · rw [if_neg a4] at h; exact absurd h a4
      · rw [if_neg a3] at h; exact absurd h n50
  · rw [if_neg a1] at h; exact absurd h n10
theorem WT.mono {nf : Nat} {T : Ts} (W : WT nf T) : WT (nf + 1) T := ⟨W.1, fun j hj => ⟨by have := (W.2 j hj).1; omega, fun hh => by
  obtain ⟨g, hg, e⟩ := (W.2 j hj).2 hh
  exact ⟨g, by omega, e⟩⟩⟩
theorem rfB_ok {g : Nat → Int32} {n : Nat} {B : Bk} {t : Tok} (W : WBk B) (G : GT g n t) (h : rfF g n B t = 0) : WBk (rfB g n B t) := by
  obtain ⟨a1, a2, a3, a4, a5, a6⟩ := rfF_0 h
  obtain ⟨⟨w1, w2, w3, w4⟩, w5, w6⟩ := W
  obtain ⟨b1, b2, b3, b4⟩ := dgF_0 a4
  obtain ⟨c1, c2, c3, c4⟩ := dgF_0 a6
  obtain ⟨v, v1, v2, ev⟩ := dg_v b3 b4
  obtain ⟨w, y1, y2, ew⟩ := dg_v c3 c4
  have rv : rfV (nxt g n (nxt g n t)) = v := by unfold rfV; rw [ev, cl_of (by omega)]
  have rw' : rfV (nxt g n (nxt g n (nxt g n (nxt g n t)))) = w := by unfold rfV; rw [ew, cl_of (by omega)]
  unfold rfB
  rw [rv, rw']
  rw [rv] at a5
  refine ⟨⟨by rw [addF_F]; omega, w2, fun f hf => ?_, fun k hk => ?_⟩, fun f hf => ?_, by rw [addF_sp1]; exact a5⟩
  · rw [addF_F] at hf
    rw [addF_T, addF_C]
    by_cases q : f = bF B
    · rw [if_pos q, if_pos q]; exact ⟨v1, v2, y1, y2⟩
    · rw [if_neg q, if_neg q]; exact w3 f (by omega)
  · rw [addF_F, addF_R]; exact (w4 k hk).mono
  · rw [addF_F] at hf
    rw [addF_M]
    by_cases q : f = bF B
    · rw [if_pos q]; exact (tk_w G (isN_1 a1)).1
    · rw [if_neg q]; exact w5 f (by omega)
theorem Kb.sp {c bo n : Nat} {g : Nat → Int32} {B : Bk} {t t' : Tok} {h h' : MHp} (hbo : bo = c + 2 ∨ bo = c + 57) (h12 : bN B ≤ 12) (K : Kb c bo g n B t h) (S : Sp c h h') (P : PC c g n t' h') : Kb c bo g n B t' h' := by
  obtain ⟨k1, k2, k3, k4⟩ := K
  have F : FT c (bo + 2) h h' := S.ft
  have A : Ag bo (bo + 53) h h' := fun a x y => by
    obtain ⟨a1, a2, a3, a4, a5, a6, a7, a8, a9⟩ := S
    exact ⟨by rw [a1], by rw [a2], (a8 a (by omega)).1, (a8 a (by omega)).2, by rw [a3], by rw [a5], by rw [a6], by rw [a4]⟩
  exact ⟨P, F.NB k2 (Or.inl (by omega)) (by omega), k3.ag A h12, by rw [(A bo (by omega) (by omega)).2.2.1]; exact k4⟩
theorem p_readField {c bo n : Nat} {g : Nat → Int32} {B : Bk} {t : Tok} {h : MHp} (hbo : bo = c + 2 ∨ bo = c + 57) (W : WBk B) (G : GT g n t) (K : Kb c bo g n B t h) : (rfF g n B t ≠ 0 ∧ CFl c bo h (mX8_readField h (c + 55)) (rfF g n B t) (rfT g n B t)) ∨ rfF g n B t = 0 ∧ ∃ h' : MHp, mX8_readField h (c + 55) = some (1, h') ∧ FT c bo h h' ∧ hI h' (c + 55) 1 = hI h (c + 55) 1 ∧ Kb c bo g n (rfB g n B t) (rfN g n t) h' ∧ GT g n (rfN g n t) := by
  have n30 : ¬ (3 : Int32) = 0 := by decide
  have WN := W.nw
  have w6 := W.1.1
  have w12 := W.1.2.1
  have sp := W.2.2
  obtain ⟨P, N, C, s6⟩ := id K
  have K55 := lK55 P.1.1
  obtain ⟨n1, n2, n3, n4⟩ := id N
  have i1 := n2.1
  have iN := p_isName P G
  by_cases a1 : isN t = true
  · rw [if_pos a1] at iN
    have k1 := isN_1 a1
    have eL := P.w G k1
    have ef := p_fieldNamed n2 n3 w6 n4 WN.2 (tk_w G k1).1
    have le := fN_le B (kL t)
    by_cases a2 : fN B (kL t) < bF B
    · have oF' : rfF g n B t = 3 := by unfold rfF; rw [if_pos a1, if_pos a2]
      have oT' : rfT g n B t = t := by unfold rfT; rw [if_pos a1, if_pos a2]
      rw [oF', oT']
      left
      refine ⟨n30, CFl.at 3 FT.rf P ?_⟩
      have fr : fR B (kL t) = Int32.ofNat (fN B (kL t)) := by unfold fR; rw [if_pos a2]
      rw [mX8_readField, b_rcv, if_pos K55, iN, o_bind, if_neg n10, b_gR, if_pos K55, n1, b_gL, if_pos K55, eL, b_rcv, if_pos i1, ef, o_bind, fr, if_neg (nm_of (by omega)), b_rcv, if_pos K55, mX8_fail, b_pI, if_pos K55, o_bind, rB0, o_bind]
    · have fr : fR B (kL t) = -1 := by unfold fR; rw [if_neg a2]
      by_cases a3 : bF B < 6
      · have lt : Int32.ofNat (bF B) < 6 := by rw [show (6 : Int32) = Int32.ofNat 6 from rfl, lt_of' (by omega) (by omega)]; exact a3
        obtain ⟨h1, e1, S1, P1, G1⟩ := P.st (by omega)
        have K1 := K.sp hbo w12 S1 P1
        have K551 := lK55 P1.1.1
        have base : mX8_readField h (c + 55) = (mX8_readDigitBehind h1 (c + 55) 7630704).bind fun r12 => (if r12.1 = 0 then some (0, r12.2) else (gI 9 6 r12.2 (some (c + 55))).bind fun x14 => (gR 9 8 r12.2 (some (c + 55))).bind fun x15 => (gI 2 6 r12.2 x15).bind fun x16 => (if (x16 * (x14 + 1)) ≤ 20000 then (rcv 9 r12.2 (some (c + 55))).bind fun b18 => (mX8_step r12.2 b18).bind fun r17 => (rcv 9 r17 (some (c + 55))).bind fun b20 => (mX8_readDigitBehind r17 b20 1668248436).bind fun r19 => (if r19.1 = 0 then some (0, r19.2) else (gR 9 8 r19.2 (some (c + 55))).bind fun x21 => (gI 9 6 r19.2 (some (c + 55))).bind fun x22 => (rcv 2 r19.2 x21).bind fun b24 => (mX1_addField r19.2 b24 (cwd (kL t)) x14 x22).bind fun r23 => (rcv 9 r23 (some (c + 55))).bind fun b26 => (mX8_step r23 b26).bind fun r25 => some (1, r25)) else (rcv 9 r12.2 (some (c + 55))).bind fun b29 => (mX8_fail r12.2 b29 5).bind fun r28 => (rB r28.1).bind fun _ => some (r28.1, r28.2))) := by
          rw [mX8_readField, b_rcv, if_pos K55, iN, o_bind, if_neg n10, b_gR, if_pos K55, n1, b_gL, if_pos K55, eL, b_rcv, if_pos i1, ef, o_bind, fr, if_pos rfl, b_gR, if_pos K55, n1, b_gI, if_pos i1, n3, if_pos lt, b_gL, if_pos K55, eL, b_rcv, if_pos K55, e1, o_bind, b_rcv, if_pos K551]
        rcases p_digitB (u := bo) P1 G1 (show 7 < 9 by omega) cw7 with ⟨d0, h2, e2, F2, f2, x2⟩ | ⟨d0, h2, e2, S2, P2, G2⟩
        · have oF' : rfF g n B t = dgF g n 7 (nxt g n t) := by unfold rfF; rw [if_pos a1, if_neg a2, if_pos a3, if_neg d0]
          have oT' : rfT g n B t = dgT g n 7 (nxt g n t) := by unfold rfT; rw [if_pos a1, if_neg a2, if_pos a3, if_neg d0]
          rw [oF', oT']
          left
          exact ⟨d0, h2, by rw [base, e2, o_bind, if_pos rfl], S1.ft.tr F2, f2, x2⟩
        · have K2 := K1.sp hbo w12 S2 P2
          have K552 := lK55 P2.1.1
          obtain ⟨b1, b2, b3, b4⟩ := dgF_0 d0
          obtain ⟨v, v1, v2, ev⟩ := dg_v b3 b4
          have rv : rfV (nxt g n (nxt g n t)) = v := by unfold rfV; rw [ev, cl_of (by omega)]
          have x6 : hI h2 (c + 55) 6 = Int32.ofNat v := by rw [P2.2.2.2.2.2.1 (Or.inl b2)]; exact ev
          have m2 := K2.2.1.2.1.1
          have sm : spT B (bF B) * (v + 1) ≤ 200000 := by
            have := Nat.mul_le_mul sp (show v + 1 ≤ 10 by omega)
            omega
          by_cases a5 : spT B (bF B) * (v + 1) ≤ 20000
          · obtain ⟨h3, e3, S3, P3, G3⟩ := P2.st (by omega)
            have K3 := K2.sp hbo w12 S3 P3
            have K553 := lK55 P3.1.1
            have base2 : mX8_readField h (c + 55) = (mX8_readDigitBehind h3 (c + 55) 1668248436).bind fun r19 => (if r19.1 = 0 then some (0, r19.2) else (gR 9 8 r19.2 (some (c + 55))).bind fun x21 => (gI 9 6 r19.2 (some (c + 55))).bind fun x22 => (rcv 2 r19.2 x21).bind fun b24 => (mX1_addField r19.2 b24 (cwd (kL t)) (Int32.ofNat v) x22).bind fun r23 => (rcv 9 r23 (some (c + 55))).bind fun b26 => (mX8_step r23 b26).bind fun r25 => some (1, r25)) := by
              rw [base, e2, o_bind, if_neg n10, b_gI, if_pos K552, x6, b_gR, if_pos K552, K2.2.1.1, b_gI, if_pos m2, K2.2.2.2, s1_of, ← Int32.ofNat_mul, if_pos (by rw [show (20000 : Int32) = Int32.ofNat 20000 from rfl, le_of (by omega) (by omega)]; exact a5), b_rcv, if_pos K552, e3, o_bind, b_rcv, if_pos K553]
            rcases p_digitB (u := bo) P3 G3 (show 8 < 9 by omega) cw8 with ⟨d1, h4, e4, F4', f4, x4⟩ | ⟨d1, h4, e4, S4, P4, G4⟩
            · have oF' : rfF g n B t = dgF g n 8 (nxt g n (nxt g n (nxt g n t))) := by unfold rfF; rw [if_pos a1, if_neg a2, if_pos a3, if_pos d0, rv, if_pos a5]
              have oT' : rfT g n B t = dgT g n 8 (nxt g n (nxt g n (nxt g n t))) := by unfold rfT; rw [if_pos a1, if_neg a2, if_pos a3, if_pos d0, rv, if_pos a5]
              rw [oF', oT']
              left
              exact ⟨d1, h4, by rw [base2, e4, o_bind, if_pos rfl], ((S1.ft.tr S2.ft).tr S3.ft).tr F4', f4, x4⟩
            · have K4 := K3.sp hbo w12 S4 P4
              have K554 := lK55 P4.1.1
              obtain ⟨c1, c2, c3, c4⟩ := dgF_0 d1
              obtain ⟨w, y1, y2, ew⟩ := dg_v c3 c4
              have rw' : rfV (nxt g n (nxt g n (nxt g n (nxt g n t)))) = w := by unfold rfV; rw [ew, cl_of (by omega)]
              have z6 : hI h4 (c + 55) 6 = Int32.ofNat w := by rw [P4.2.2.2.2.2.1 (Or.inl c2)]; exact ew
              obtain ⟨h5, e5, F5, K5⟩ := p_addField (v := v) (w := w) (l := kL t) (by omega) K4 a3
              have K555 := lK55 K5.1.1.1
              obtain ⟨h6, e6, S6, P6, G6⟩ := K5.1.st (show kK (nxt g n (nxt g n (nxt g n (nxt g n t)))) ≠ 4 by omega)
              have oF' : rfF g n B t = 0 := by unfold rfF; rw [if_pos a1, if_neg a2, if_pos a3, if_pos d0, rv, if_pos a5]; exact d1
              have oB' : rfB g n B t = addF B (kL t) v w := by unfold rfB; rw [rv, rw']
              rw [oB']
              right
              refine ⟨oF', h6, ?_, ((((S1.ft.tr S2.ft).tr S3.ft).tr S4.ft).tr (F5.ft (by omega))).tr S6.ft, ?_, K5.sp hbo w12 S6 P6, G6⟩
              · rw [base2, e4, o_bind, if_neg n10, b_gR, if_pos K554, K4.2.1.1, b_gI, if_pos K554, z6, b_rcv, if_pos K4.2.1.2.1.1, e5, o_bind, b_rcv, if_pos K555, e6, o_bind]
              · rw [S6.2.2.2.2.2.2.2.2.2, (F5.2.2.2.2.2 (c + 55) (by omega)).1, S4.2.2.2.2.2.2.2.2.2, S3.2.2.2.2.2.2.2.2.2, S2.2.2.2.2.2.2.2.2.2, S1.2.2.2.2.2.2.2.2.2]
          · have oF' : rfF g n B t = 5 := by unfold rfF; rw [if_pos a1, if_neg a2, if_pos a3, if_pos d0, rv, if_neg a5]
            have oT' : rfT g n B t = nxt g n (nxt g n t) := by unfold rfT; rw [if_pos a1, if_neg a2, if_pos a3, if_pos d0, rv, if_neg a5]
            rw [oF', oT']
            left
            refine ⟨n50, CFl.at 5 (S1.ft.tr S2.ft) P2 ?_⟩
            rw [base, e2, o_bind, if_neg n10, b_gI, if_pos K552, x6, b_gR, if_pos K552, K2.2.1.1, b_gI, if_pos m2, K2.2.2.2, s1_of, ← Int32.ofNat_mul, if_neg (by rw [show (20000 : Int32) = Int32.ofNat 20000 from rfl, le_of (by omega) (by omega)]; exact a5), b_rcv, if_pos K552, mX8_fail, b_pI, if_pos K552, o_bind, rB0, o_bind]
      · have oF' : rfF g n B t = 5 := by unfold rfF; rw [if_pos a1, if_neg a2, if_neg a3]
        have oT' : rfT g n B t = t := by unfold rfT; rw [if_pos a1, if_neg a2, if_neg a3]
        rw [oF', oT']
        left
        refine ⟨n50, CFl.at 5 FT.rf P ?_⟩
        rw [mX8_readField, b_rcv, if_pos K55, iN, o_bind, if_neg n10, b_gR, if_pos K55, n1, b_gL, if_pos K55, eL, b_rcv, if_pos i1, ef, o_bind, fr, if_pos rfl, b_gR, if_pos K55, n1, b_gI, if_pos i1, n3, if_neg (by rw [show (6 : Int32) = Int32.ofNat 6 from rfl, lt_of' (by omega) (by omega)]; exact a3), b_rcv, if_pos K55, mX8_fail, b_pI, if_pos K55, o_bind, rB0, o_bind]
  · rw [if_neg a1] at iN
    have oF' : rfF g n B t = 1 := by unfold rfF; rw [if_neg a1]
    have oT' : rfT g n B t = t := by unfold rfT; rw [if_neg a1]
    rw [oF', oT']
    left
    refine ⟨n10, CFl.at 1 FT.rf P ?_⟩
    rw [mX8_readField, b_rcv, if_pos K55, iN, o_bind, if_pos rfl, b_rcv, if_pos K55, mX8_fail, b_pI, if_pos K55, o_bind, rB0, o_bind]

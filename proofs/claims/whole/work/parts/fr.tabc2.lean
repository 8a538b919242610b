/-! reading a table: the class's, its parts -/
theorem isW_ne {t : Tok} {i j : Nat} (h : isW t i = true) (d : wdN i ≠ wdN j) : ¬ isW t j = true := by
  intro e
  unfold isW at h e
  rw [Bool.and_eq_true, decide_eq_true_eq, decide_eq_true_eq] at h e
  exact d (h.2.symm.trans e.2)
theorem p_readWhat {c bo p n : Nat} {g : Nat → Int32} {B : Bk} {t : Tok} {h : MHp} (D : Dp c bo p) (W : NW B) (G : GT g n t) (K : Kp c bo p g n B (none, none, none, noT) t h) : (wtF g n B t ≠ 0 ∧ CFp c p h (mX8_readWhat h (c + 55) (some p)) (wtF g n B t) (wtT g n B t)) ∨ wtF g n B t = 0 ∧ GT g n (wtT g n B t) ∧ ∃ h' : MHp, mX8_readWhat h (c + 55) (some p) = some (1, h') ∧ CG c p h h' ∧ Kp c bo p g n B (wtO g n B t, none, none, noT) (wtT g n B t) h' := by
  have P := K.1
  have K55 := lK55 P.1.1
  have iw3 := p_isWord P G (show 3 < 9 by omega) cw3
  have iw4 := p_isWord P G (show 4 < 9 by omega) cw4
  have d1 := D.1
  have d2 := D.2
  by_cases a3 : isW t 3 = true
  · rw [if_pos a3] at iw3
    have eF : wtF g n B t = 0 := by unfold wtF; rw [if_pos a3]
    have eT : wtT g n B t = nxt g n t := by unfold wtT; rw [if_pos a3]
    have eO : wtO g n B t = none := by unfold wtO; rw [if_pos a3]
    rw [eF, eT, eO]
    obtain ⟨h1, e1, S1, P1, G1⟩ := P.st (by have := isW_1 a3; omega)
    right
    refine ⟨rfl, G1, h1, ?_, CG.sp S1, K.sp D S1 P1⟩
    rw [mX8_readWhat, b_rcv, if_pos K55, iw3, o_bind, if_neg n10, b_rcv, if_pos K55, e1, o_bind]
  · rw [if_neg a3] at iw3
    by_cases a4 : isW t 4 = true
    · rw [if_pos a4] at iw4
      have eF : wtF g n B t = kf B (nxt g n t) := by unfold wtF; rw [if_neg a3, if_pos a4]
      have eT : wtT g n B t = if kf B (nxt g n t) = 0 then nxt g n (nxt g n t) else nxt g n t := by unfold wtT; rw [if_neg a3, if_pos a4]
      have eO : wtO g n B t = some (fN B (kL (nxt g n t))) := by unfold wtO; rw [if_neg a3]
      rw [eF, eT, eO]
      obtain ⟨h1, e1, S1, P1, G1⟩ := P.st (by have := isW_1 a4; omega)
      have K1 := K.sp D S1 P1
      have kn := p_known P1 G1 K1.2.1 W
      have kp : hK h1 p = 8 := K1.2.2.2.1.1
      have K551 := lK55 P1.1.1
      have base : mX8_readWhat h (c + 55) (some p) = (mX8_knownField h1 (c + 55)).bind fun r7 => (pI 8 3 r7.2 (some p) r7.1).bind fun h9 => (gI 8 3 h9 (some p)).bind fun x10 => (if x10 = (-1) then some (0, h9) else (rcv 9 h9 (some (c + 55))).bind fun b12 => (mX8_step h9 b12).bind fun r11 => some (1, r11)) := by
        rw [mX8_readWhat, b_rcv, if_pos K55, iw3, o_bind, if_pos rfl, b_rcv, if_pos K55, iw4, o_bind, if_neg n10, b_rcv, if_pos K55, e1, o_bind, b_rcv, if_pos K551]
      rw [base]
      by_cases k0 : kf B (nxt g n t) = 0
      · rw [if_pos k0] at kn
        rw [if_pos k0]
        have w6 := W.1
        have lt := kf_lt k0
        obtain ⟨X, eX⟩ : ∃ X : MHp, X = sI h1 p 3 (Int32.ofNat (fN B (kL (nxt g n t)))) := ⟨_, rfl⟩
        obtain ⟨q1, q2, q3, q4, q5, q6⟩ := K1.2.2.2.2.1
        have KX : Kp c bo p g n B (some (fN B (kL (nxt g n t))), none, none, noT) (nxt g n t) X := by
          refine K1.I D ⟨by rw [eX]; rfl, by rw [eX]; rfl, by rw [eX]; rfl, by rw [eX]; rfl, by rw [eX]; rfl, by rw [eX]; rfl, by rw [eX]; rfl, fun a ha => by rw [eX]; exact up2_ne _ _ _ ha⟩ rfl ?_ ?_ ?_ ?_ ?_
          · rw [eX, e_Iself]; rfl
          · rw [eX, e_sI, if_neg (by omega)]; exact q2
          · rw [eX, e_sI, if_neg (by omega)]; exact q3
          · rw [eX, e_sI, if_neg (by omega)]; exact q4
          · rw [eX, e_sI, if_neg (by omega)]; exact q5
        have nm : ¬ Int32.ofNat (fN B (kL (nxt g n t))) = -1 := by
          intro e
          exact absurd (show Int32.ofNat (fN B (kL (nxt g n t))) < 0 by rw [e]; decide) (nlt0 (by omega))
        obtain ⟨h2, e2, S2, P2, G2⟩ := KX.1.st (by rw [kf_1 k0]; decide)
        right
        have FX : CG c p h1 X := by rw [eX]; exact CG.Ip 3 _ (by omega)
        refine ⟨k0, G2, h2, ?_, ((CG.sp S1).tr FX).tr (CG.sp S2), KX.sp D S2 P2⟩
        have kX : hK X p = 8 := by rw [eX]; exact kp
        rw [kn, o_bind, b_pI, if_pos kp, ← eX, b_gI, if_pos kX, show hI X p 3 = _ from by rw [eX, e_Iself], if_neg nm, b_rcv, if_pos (lK55 KX.1.1.1), e2, o_bind]
      · rw [if_neg k0] at kn
        rw [if_neg k0]
        left
        refine ⟨k0, sI (sI h1 (c + 55) 1 (kf B (nxt g n t))) p 3 (-1), ?_, ((CG.sp S1).tr (CG.I55 1 _)).tr (CG.Ip 3 _ (by omega)), ?_, ?_⟩
        · rw [kn, o_bind, b_pI, if_pos (by exact kp), b_gI, if_pos (by exact kp), e_Iself, if_pos rfl]
        · rw [e_sI, if_neg (by omega), e_Iself]
        · rw [e_sI, if_neg (by omega), e_sI, if_neg (by omega)]; exact P1.2.2.1
    · rw [if_neg a4] at iw4
      have eF : wtF g n B t = 1 := by unfold wtF; rw [if_neg a3, if_neg a4]
      have eT : wtT g n B t = t := by unfold wtT; rw [if_neg a3, if_neg a4]
      rw [eF, eT]
      left
      refine ⟨n10, sI h (c + 55) 1 1, ?_, CG.I55 1 1, e_Iself _ _ _ _, by rw [e_sI, if_neg (by omega)]; exact P.2.2.1⟩
      rw [mX8_readWhat, b_rcv, if_pos K55, iw3, o_bind, if_pos rfl, b_rcv, if_pos K55, iw4, o_bind, if_pos rfl, b_rcv, if_pos K55, mX8_fail, b_pI, if_pos K55, o_bind, rB0, o_bind]
theorem p_readBy {c bo p n : Nat} {g : Nat → Int32} {B : Bk} {o : Option Nat} {t : Tok} {h : MHp} (D : Dp c bo p) (W : NW B) (G : GT g n t) (K : Kp c bo p g n B (o, none, none, noT) t h) : (byF g n B t ≠ 0 ∧ CFp c p h (mX8_readBy h (c + 55) (some p)) (byF g n B t) (byT g n B t)) ∨ byF g n B t = 0 ∧ GT g n (byT g n B t) ∧ ∃ h' : MHp, mX8_readBy h (c + 55) (some p) = some (1, h') ∧ CG c p h h' ∧ Kp c bo p g n B (o, by1 g n B t, by2 g n B t, noT) (byT g n B t) h' := by
  have P := K.1
  have K55 := lK55 P.1.1
  have iw5 := p_isWord P G (show 5 < 9 by omega) cw5
  have d1 := D.1
  have d2 := D.2
  have w6 := W.1
  by_cases a5 : isW t 5 = true
  · rw [if_pos a5] at iw5
    have eF : byF g n B t = (if kf B (nxt g n t) = 0 then (if cmT (bt2 g n t) = true then (if kf B (bt3 g n t) = 0 then (if bf3 B g n t = bf1 B g n t then 3 else 0) else kf B (bt3 g n t)) else 0) else kf B (nxt g n t)) := by unfold byF; rw [if_pos a5]
    have eT : byT g n B t = (if kf B (nxt g n t) = 0 then (if cmT (bt2 g n t) = true then (if kf B (bt3 g n t) = 0 then (if bf3 B g n t = bf1 B g n t then bt3 g n t else nxt g n (bt3 g n t)) else bt3 g n t) else bt2 g n t) else nxt g n t) := by unfold byT; rw [if_pos a5]
    have e1' : by1 g n B t = some (bf1 B g n t) := by unfold by1; rw [if_pos a5]
    have e2' : by2 g n B t = (if cmT (bt2 g n t) = true then some (bf3 B g n t) else none) := by unfold by2; rw [if_pos a5]
    rw [eF, eT, e1', e2']
    obtain ⟨h1, e1, S1, P1, G1⟩ := P.st (by have := isW_1 a5; omega)
    have K1 := K.sp D S1 P1
    have kn := p_known P1 G1 K1.2.1 W
    have kp : hK h1 p = 8 := K1.2.2.2.1.1
    have K551 := lK55 P1.1.1
    by_cases k0 : kf B (nxt g n t) = 0
    · rw [if_pos k0] at kn
      rw [if_pos k0, if_pos k0]
      have lt : bf1 B g n t < bF B := kf_lt k0
      have kn' : mX8_knownField h1 (c + 55) = some (Int32.ofNat (bf1 B g n t), h1) := kn
      have nm : ¬ Int32.ofNat (bf1 B g n t) = -1 := fun e => absurd (show Int32.ofNat (bf1 B g n t) < 0 by rw [e]; decide) (nlt0 (by omega))
      have tp := p_top K1.2.1.2.1 K1.2.1.2.2.1 w6 K1.2.2.1 lt
      obtain ⟨X, eX⟩ : ∃ X : MHp, X = sI (sI h1 p 4 (Int32.ofNat (bf1 B g n t))) p 6 (Int32.ofNat (bT B (bf1 B g n t)) + 1) := ⟨_, rfl⟩
      obtain ⟨q1, q2, q3, q4, q5, q6⟩ := K1.2.2.2.2.1
      have KX : Kp c bo p g n B (o, some (bf1 B g n t), none, noT) (nxt g n t) X := by
        refine K1.I D ⟨by rw [eX]; rfl, by rw [eX]; rfl, by rw [eX]; rfl, by rw [eX]; rfl, by rw [eX]; rfl, by rw [eX]; rfl, by rw [eX]; rfl, fun a ha => by rw [eX]; exact (up2_ne _ _ _ ha).trans (up2_ne _ _ _ ha)⟩ rfl ?_ ?_ ?_ ?_ ?_
        · rw [eX, e_sI, if_neg (by omega), e_sI, if_neg (by omega)]; exact q1
        · rw [eX, e_sI, if_neg (by omega), e_Iself]; rfl
        · rw [eX, e_sI, if_neg (by omega), e_sI, if_neg (by omega)]; exact q3
        · rw [eX, e_Iself, s1_of]; rfl
        · rw [eX, e_sI, if_neg (by omega), e_sI, if_neg (by omega)]; exact q5
      have kX : hK X (c + 55) = 9 := lK55 KX.1.1.1
      obtain ⟨h2, e2, S2, P2, G2⟩ := KX.1.st (by rw [kf_1 k0]; decide)
      have K2 := KX.sp D S2 P2
      have K552 := lK55 P2.1.1
      have FX : CG c p h1 X := by rw [eX]; exact (CG.Ip 4 _ (by omega)).tr (CG.Ip 6 _ (by omega))
      have F2 : CG c p h h2 := ((CG.sp S1).tr FX).tr (CG.sp S2)
      have is := p_isSign P2 G2 44
      have r8 : hR h1 (c + 55) 8 = some bo := K1.2.1.1
      have kb : hK h1 bo = 2 := K1.2.1.2.1.1
      have base : mX8_readBy h (c + 55) (some p) = (if (if kK (nxt g n (nxt g n t)) = 3 ∧ kV (nxt g n (nxt g n t)) = 44 then (1 : Int32) else 0) = 0 then some (1, h2) else (rcv 9 h2 (some (c + 55))).bind fun b17 => (mX8_step h2 b17).bind fun r16 => (rcv 9 r16 (some (c + 55))).bind fun b19 => (mX8_knownField r16 b19).bind fun r18 => (if r18.1 = (-1) then some (0, r18.2) else (if r18.1 = Int32.ofNat (bf1 B g n t) then (rcv 9 r18.2 (some (c + 55))).bind fun b28 => (mX8_fail r18.2 b28 3).bind fun r27 => (rB r27.1).bind fun _ => some (r27.1, r27.2) else (gR 9 8 r18.2 (some (c + 55))).bind fun x20 => (rcv 2 r18.2 x20).bind fun b22 => (mX1_topOf r18.2 b22 r18.1).bind fun r21 => (rcv 8 r18.2 (some p)).bind fun b24 => (mX7_andBy r18.2 b24 r18.1 r21).bind fun r23 => (rcv 9 r23 (some (c + 55))).bind fun b26 => (mX8_step r23 b26).bind fun r25 => some (1, r25)))) := by
        rw [mX8_readBy, b_rcv, if_pos K55, iw5, o_bind, if_neg n10, b_rcv, if_pos K55, e1, o_bind, b_rcv, if_pos K551, kn', o_bind, if_neg nm, b_gR, if_pos (by exact K551), r8, b_rcv, if_pos (by exact kb), tp, o_bind, b_rcv, if_pos (by exact kp), mX7_by, b_pI, if_pos (by exact kp), b_pI, if_pos (by exact kp), o_bind, ← eX, b_rcv, if_pos kX, e2, o_bind, b_rcv, if_pos K552, is, o_bind]
      rw [base]
      by_cases cm : cmT (bt2 g n t) = true
      · rw [if_pos cm, if_pos cm, if_pos cm]
        have cm' : kK (nxt g n (nxt g n t)) = 3 ∧ kV (nxt g n (nxt g n t)) = 44 := of_decide_eq_true cm
        rw [if_pos cm', if_neg n10]
        obtain ⟨h3, e3, S3, P3, G3⟩ := P2.st (by omega)
        have K3 := K2.sp D S3 P3
        have K553 := lK55 P3.1.1
        have kn3 := p_known P3 G3 K3.2.1 W
        have F3 : CG c p h h3 := F2.tr (CG.sp S3)
        by_cases k3 : kf B (bt3 g n t) = 0
        · have k3' : kf B (nxt g n (nxt g n (nxt g n t))) = 0 := k3
          rw [if_pos k3'] at kn3
          rw [if_pos k3, if_pos k3]
          have lt3 : bf3 B g n t < bF B := kf_lt k3
          have kn3' : mX8_knownField h3 (c + 55) = some (Int32.ofNat (bf3 B g n t), h3) := kn3
          have nm3 : ¬ Int32.ofNat (bf3 B g n t) = -1 := fun e => absurd (show Int32.ofNat (bf3 B g n t) < 0 by rw [e]; decide) (nlt0 (by omega))
          by_cases sm : bf3 B g n t = bf1 B g n t
          · rw [if_pos sm, if_pos sm]
            left
            refine ⟨by decide, sI h3 (c + 55) 1 3, ?_, F3.tr (CG.I55 1 3), e_Iself _ _ _ _, by rw [e_sI, if_neg (by omega)]; exact P3.2.2.1⟩
            rw [b_rcv, if_pos K552, e3, o_bind, b_rcv, if_pos K553, kn3', o_bind, if_neg nm3, if_pos (by rw [sm]), b_rcv, if_pos (by exact K553), mX8_fail, b_pI, if_pos (by exact K553), o_bind, rB0, o_bind]
          · rw [if_neg sm, if_neg sm]
            right
            have ns : ¬ Int32.ofNat (bf3 B g n t) = Int32.ofNat (bf1 B g n t) := by rw [eq_of (by omega) (by omega)]; exact sm
            have tp3 := p_top K3.2.1.2.1 K3.2.1.2.2.1 w6 K3.2.2.1 lt3
            have kp3 : hK h3 p = 8 := K3.2.2.2.1.1
            obtain ⟨Y, eY⟩ : ∃ Y : MHp, Y = sI (sI h3 p 5 (Int32.ofNat (bf3 B g n t))) p 7 (Int32.ofNat (bT B (bf3 B g n t)) + 1) := ⟨_, rfl⟩
            obtain ⟨u1, u2, u3, u4, u5, u6⟩ := K3.2.2.2.2.1
            have KY : Kp c bo p g n B (o, some (bf1 B g n t), some (bf3 B g n t), noT) (bt3 g n t) Y := by
              refine K3.I D ⟨by rw [eY]; rfl, by rw [eY]; rfl, by rw [eY]; rfl, by rw [eY]; rfl, by rw [eY]; rfl, by rw [eY]; rfl, by rw [eY]; rfl, fun a ha => by rw [eY]; exact (up2_ne _ _ _ ha).trans (up2_ne _ _ _ ha)⟩ rfl ?_ ?_ ?_ ?_ ?_
              · rw [eY, e_sI, if_neg (by omega), e_sI, if_neg (by omega)]; exact u1
              · rw [eY, e_sI, if_neg (by omega), e_sI, if_neg (by omega)]; exact u2
              · rw [eY, e_sI, if_neg (by omega), e_Iself]; rfl
              · rw [eY, e_sI, if_neg (by omega), e_sI, if_neg (by omega)]; exact u4
              · rw [eY, e_Iself, s1_of]; rfl
            have kY : hK Y (c + 55) = 9 := lK55 KY.1.1.1
            obtain ⟨h4, e4, S4, P4, G4⟩ := KY.1.st (by rw [kf_1 k3]; decide)
            have FY : CG c p h3 Y := by rw [eY]; exact (CG.Ip 5 _ (by omega)).tr (CG.Ip 7 _ (by omega))
            refine ⟨rfl, G4, h4, ?_, (F3.tr FY).tr (CG.sp S4), KY.sp D S4 P4⟩
            rw [b_rcv, if_pos K552, e3, o_bind, b_rcv, if_pos K553, kn3', o_bind, if_neg nm3, if_neg ns, b_gR, if_pos (by exact K553), K3.2.1.1, b_rcv, if_pos (by exact K3.2.1.2.1.1), tp3, o_bind, b_rcv, if_pos (by exact kp3), mX7_andBy, b_pI, if_pos (by exact kp3), b_pI, if_pos (by exact kp3), o_bind, ← eY, b_rcv, if_pos kY, e4, o_bind]
        · have k3' : ¬ kf B (nxt g n (nxt g n (nxt g n t))) = 0 := k3
          rw [if_neg k3'] at kn3
          rw [if_neg k3, if_neg k3]
          left
          refine ⟨k3, sI h3 (c + 55) 1 (kf B (bt3 g n t)), ?_, F3.tr (CG.I55 1 _), e_Iself _ _ _ _, by rw [e_sI, if_neg (by omega)]; exact P3.2.2.1⟩
          rw [b_rcv, if_pos K552, e3, o_bind, b_rcv, if_pos K553, kn3, o_bind, if_pos rfl]
          rfl
      · rw [if_neg cm, if_neg cm, if_neg cm]
        have cm' : ¬ (kK (nxt g n (nxt g n t)) = 3 ∧ kV (nxt g n (nxt g n t)) = 44) := fun e => cm (decide_eq_true e)
        rw [if_neg cm', if_pos rfl]
        right
        exact ⟨rfl, G2, h2, rfl, F2, K2⟩
    · rw [if_neg k0] at kn
      rw [if_neg k0, if_neg k0]
      left
      refine ⟨k0, sI h1 (c + 55) 1 (kf B (nxt g n t)), ?_, (CG.sp S1).tr (CG.I55 1 _), e_Iself _ _ _ _, by rw [e_sI, if_neg (by omega)]; exact P1.2.2.1⟩
      rw [mX8_readBy, b_rcv, if_pos K55, iw5, o_bind, if_neg n10, b_rcv, if_pos K55, e1, o_bind, b_rcv, if_pos K551, kn, o_bind, if_pos rfl]
  · rw [if_neg a5] at iw5
    have eF : byF g n B t = 0 := by unfold byF; rw [if_neg a5]
    have eT : byT g n B t = t := by unfold byT; rw [if_neg a5]
    have e1' : by1 g n B t = none := by unfold by1; rw [if_neg a5]
    have e2' : by2 g n B t = none := by unfold by2; rw [if_neg a5]
    rw [eF, eT, e1', e2']
    right
    refine ⟨rfl, G, h, ?_, ⟨CF.rf, rfl⟩, K⟩
    rw [mX8_readBy, b_rcv, if_pos K55, iw5, o_bind, if_pos rfl]
theorem CP.w {p : Nat} {B : Bk} {o i1 i2 : Option Nat} {T T' : Ts} {h h' : MHp} (C : CP h p B (o, i1, i2, T)) (e : hI h' p = hI h p) (D : CT h' (p + 1) T') : CP h' p B (o, i1, i2, T') := by
  obtain ⟨q1, q2, q3, q4, q5, q6⟩ := C
  exact ⟨by rw [e]; exact q1, by rw [e]; exact q2, by rw [e]; exact q3, by rw [e]; exact q4, by rw [e]; exact q5, D⟩
/-- a table of the class is read -/
theorem p_readTable {c bo p n : Nat} {g : Nat → Int32} {B : Bk} {h : MHp} (D : Dp c bo p) (W : NW B) (L : CL c h) (I : IsP h p) (hg : hAI h (c + 1) = g) (hn : n ≤ 500) (IB : IsB h bo) (c4 : hI h bo 4 = Int32.ofNat (bF B)) (nm : ∀ f : Nat, f < bF B → hAL h (bo + 1) f = cwd (bM B f)) (tops : ∀ f : Nat, f < bF B → hAI h (bo + 2) f = Int32.ofNat (bT B f)) : (taF g n B (tokAt g n 0) ≠ 0 ∧ CFp c p h (mX8_readTable h (c + 55) (Int32.ofNat n) (some p) (some bo)) (taF g n B (tokAt g n 0)) (taT g n B (tokAt g n 0))) ∨ taF g n B (tokAt g n 0) = 0 ∧ WT (bF B) (whW g n B (byT g n B (wtT g n B (tokAt g n 0)))) ∧ ∃ h' : MHp, mX8_readTable h (c + 55) (Int32.ofNat n) (some p) (some bo) = some (1, h') ∧ CG c p h h' ∧ hI h' (c + 55) 1 = 0 ∧ CP h' p B (taP g n B (tokAt g n 0)) ∧ CX h' p (fun _ => none) := by
  obtain ⟨d1, d2⟩ := id D
  have w6 := W.1
  obtain ⟨h1, e1, F1, r1, C1, X1⟩ := p_plan0 (B := B) d2 I
  have L1 : CL c h1 := F1.1.cl L
  have g1 : hAI h1 (c + 1) = g := by rw [(F1.1.2.2.2.2.2.1 (c + 1) (by omega) (by omega)).2.1]; exact hg
  obtain ⟨h2, e2, P2, r8, i1, F2, c2⟩ := p_begin L1 g1 hn bo
  have L2 : CL c h2 := P2.1.1
  have A2 : ∀ lo hi : Nat, c + 55 < lo ∨ (c < lo ∧ hi ≤ c + 55) → Ag lo hi h1 h2 := fun lo hi d => F2.ag (fun a x y => ⟨by omega, by omega, Or.inr (Nat.zero_le _)⟩)
  have A1 : ∀ lo hi : Nat, (c + 55 < lo ∨ (c < lo ∧ hi ≤ c + 55)) → (hi ≤ p ∨ p + 7 ≤ lo) → Ag lo hi h h1 := fun lo hi d e => F1.1.ag (fun a x y => ⟨by omega, by omega, by omega⟩)
  have a12 : Ag bo (bo + 3) h h2 := by
    have d : c + 55 < bo ∨ (c < bo ∧ bo + 3 ≤ c + 55) := by omega
    exact (A1 bo (bo + 3) d (by omega)).tr (A2 bo (bo + 3) d)
  have ap : Ag p (p + 7) h1 h2 := A2 _ _ (by omega)
  have I2 : IsP h2 p := by
    have R : ∀ j : Nat, hR h2 p j = hR h p j := fun j => by
      rw [(ap p (by omega) (by omega)).2.2.2.2.1, r1]
    obtain ⟨k1, k2, k3, k4, k5, k6, k7, k8, k9⟩ := id I
    have kk : hK h2 = hK h := F2.1.trans F1.1.1
    have nn : hN h2 = hN h := F2.2.1.trans F1.1.2.1
    have rr : hR h2 (p + 1) = hR h (p + 1) := by rw [(ap (p + 1) (by omega) (by omega)).2.2.2.2.1, r1]
    refine ⟨by rw [kk]; exact k1, by rw [R]; exact k2, by rw [R]; exact k3, by rw [R]; exact k4, by rw [kk]; exact k5, by rw [kk]; exact k6, by rw [nn]; exact k7, by rw [nn]; exact k8, ?_⟩
    unfold IsT at k9 ⊢
    rw [kk, nn, rr]
    exact k9
  have IB2 : IsB h2 bo := by
    rcases d1 with rfl | rfl
    · exact L2.b (Or.inl rfl)
    · exact L2.b (Or.inr rfl)
  have K2 : Kp c bo p g n B (none, none, none, noT) (tokAt g n 0) h2 := by
    refine ⟨P2, ⟨r8, IB2, ?_, fun f hf => ?_⟩, fun f hf => ?_, I2, C1.ag ap, X1.ag ap, i1⟩
    · rw [(a12 bo (by omega) (by omega)).2.2.1]; exact c4
    · rw [(a12 (bo + 1) (by omega) (by omega)).2.2.2.2.2.2.1]; exact nm f hf
    · rw [(a12 (bo + 2) (by omega) (by omega)).2.2.2.2.2.1]; exact tops f hf
  have F12 : CG c p h h2 := F1.tr ⟨F2.wd, c2⟩
  have G0 := GT_0 g n
  have base : ∀ r : Int32 × MHp, mX8_readWhat h2 (c + 55) (some p) = some r → mX8_readTable h (c + 55) (Int32.ofNat n) (some p) (some bo) = (if r.1 = 0 then some (0, r.2) else (rcv 9 r.2 (some (c + 55))).bind fun b13 => (mX8_readBy r.2 b13 (some p)).bind fun r12 => (if r12.1 = 0 then some (0, r12.2) else (rcv 9 r12.2 (some (c + 55))).bind fun b15 => (mX8_isWord r12.2 b15 512852587109).bind fun r14 => (if r14 = 0 then mX8_readTable_b55 r12.2 (c + 55) else (rcv 9 r12.2 (some (c + 55))).bind fun b17 => (mX8_step r12.2 b17).bind fun r16 => (gR 8 0 r16 (some p)).bind fun x18 => (rcv 9 r16 (some (c + 55))).bind fun b20 => (mX8_readTest r16 b20 x18).bind fun r19 => (if r19.1 = 0 then some (0, r19.2) else mX8_readTable_b55 r19.2 (c + 55))))) := fun r e => by
    rw [mX8_readTable, b_rcv, if_pos I.1, e1, o_bind, b_rcv, if_pos (lK55 L1), e2, o_bind, b_rcv, if_pos (lK55 L2), e, o_bind]
  -- the end of a table
  have fin : ∀ (t : Tok) (h3 : MHp), PC c g n t h3 → GT g n t → (kK t = 0 → mX8_readTable_b55 h3 (c + 55) = some (1, h3)) ∧ (¬ kK t = 0 → mX8_readTable_b55 h3 (c + 55) = some (0, sI h3 (c + 55) 1 1)) := fun t h3 P3 G3 => by
    have k5 := kK_5 G3
    have K3 := lK55 P3.1.1
    have kd : (Int32.ofNat (kK t) = 0) = (kK t = 0) := by rw [show (0 : Int32) = Int32.ofNat 0 from rfl, kd_c k5 (by omega)]
    refine ⟨fun e => ?_, fun e => ?_⟩
    · rw [mX8_readTable_b55, b_gI, if_pos K3, P3.2.2.2.1, if_pos (by rw [kd]; exact e)]
    · rw [mX8_readTable_b55, b_gI, if_pos K3, P3.2.2.2.1, if_neg (by rw [kd]; exact e), b_rcv, if_pos K3, mX8_fail, b_pI, if_pos K3, o_bind, if_pos rfl]
  rcases p_readWhat D W G0 K2 with ⟨ne, h3, e3, F3, f3, x3⟩ | ⟨z3, G3, h3, e3, F3, K3⟩
  · left
    have eF : taF g n B (tokAt g n 0) = wtF g n B (tokAt g n 0) := by unfold taF; rw [if_neg ne]
    have eT : taT g n B (tokAt g n 0) = wtT g n B (tokAt g n 0) := by unfold taT; rw [if_neg ne]
    rw [eF, eT]
    exact ⟨ne, h3, by rw [base _ e3, if_pos rfl], F12.tr F3, f3, x3⟩
  · have K553 := lK55 K3.1.1.1
    rcases p_readBy D W G3 K3 with ⟨ne, h4, e4, F4x, f4, x4⟩ | ⟨z4, G4, h4, e4, F4x, K4⟩
    · left
      have eF : taF g n B (tokAt g n 0) = byF g n B (wtT g n B (tokAt g n 0)) := by unfold taF; rw [if_pos z3, if_neg ne]
      have eT : taT g n B (tokAt g n 0) = byT g n B (wtT g n B (tokAt g n 0)) := by unfold taT; rw [if_pos z3, if_neg ne]
      rw [eF, eT]
      exact ⟨ne, h4, by rw [base _ e3, if_neg n10, b_rcv, if_pos (by exact K553), e4, o_bind, if_pos rfl], (F12.tr F3).tr F4x, f4, x4⟩
    · have K554 := lK55 K4.1.1.1
      have F4t := (F12.tr F3).tr F4x
      have iw6 := p_isWord K4.1 G4 (show 6 < 9 by omega) cw6
      have eF : taF g n B (tokAt g n 0) = (if whF g n B (byT g n B (wtT g n B (tokAt g n 0))) = 0 then (if kK (whT g n B (byT g n B (wtT g n B (tokAt g n 0)))) = 0 then 0 else 1) else whF g n B (byT g n B (wtT g n B (tokAt g n 0)))) := by unfold taF; rw [if_pos z3, if_pos z4]
      have eT : taT g n B (tokAt g n 0) = whT g n B (byT g n B (wtT g n B (tokAt g n 0))) := by unfold taT; rw [if_pos z3, if_pos z4]
      rw [eF, eT]
      unfold taP
      generalize hu : byT g n B (wtT g n B (tokAt g n 0)) = u at *
      by_cases a6 : isW u 6 = true
      · rw [if_pos a6] at iw6
        have wF' : whF g n B u = (tstR g n B (nxt g n u)).1 := by unfold whF; rw [if_pos a6]
        have wT' : whT g n B u = (tstR g n B (nxt g n u)).2.1 := by unfold whT; rw [if_pos a6]
        have wW' : whW g n B u = (tstR g n B (nxt g n u)).2.2 := by unfold whW; rw [if_pos a6]
        rw [wF', wT', wW']
        obtain ⟨h5, e5, S5, P5, G5⟩ := K4.1.st (by have := isW_1 a6; omega)
        have K5 := K4.sp D S5 P5
        have F5 := F4t.tr (CG.sp S5)
        have K555 := lK55 P5.1.1
        have Dt : Du c bo (p + 1) := ⟨by omega, by omega, by omega, by omega⟩
        obtain ⟨i1', i2', i3', i4', i5', i6', i7', i8', i9'⟩ := id K5.2.2.2.1
        have KT : Kt c bo (p + 1) g n B noT (nxt g n u) h5 := ⟨P5, K5.2.1, i9', K5.2.2.2.2.1.2.2.2.2.2⟩
        rcases p_readTest Dt W G5 KT with ⟨ne, h6, e6, F6, f6, x6⟩ | ⟨z6, G6, W6, h6, e6, F6, f6, K6⟩
        · rw [if_neg ne]
          left
          exact ⟨ne, h6, by rw [base _ e3, if_neg n10, b_rcv, if_pos (by exact K553), e4, o_bind, if_neg n10, b_rcv, if_pos (by exact K554), iw6, o_bind, if_neg n10, b_rcv, if_pos (by exact K554), e5, o_bind, b_gR, if_pos i1', i2', b_rcv, if_pos K555, e6, o_bind, if_pos rfl], F5.tr (CG.ft F6 (by omega)), f6, x6⟩
        · rw [if_pos z6]
          obtain ⟨fi1, fi2⟩ := fin _ h6 K6.1 G6
          have F6t := F5.tr (CG.ft F6 (by omega))
          have bb : mX8_readTable h (c + 55) (Int32.ofNat n) (some p) (some bo) = mX8_readTable_b55 h6 (c + 55) := by
            rw [base _ e3, if_neg n10, b_rcv, if_pos (by exact K553), e4, o_bind, if_neg n10, b_rcv, if_pos (by exact K554), iw6, o_bind, if_neg n10, b_rcv, if_pos (by exact K554), e5, o_bind, b_gR, if_pos i1', i2', b_rcv, if_pos K555, e6, o_bind, if_neg n10]
          by_cases a0 : kK (tstR g n B (nxt g n u)).2.1 = 0
          · rw [if_pos a0]
            right
            have f61 : hI h6 (c + 55) 1 = 0 := by rw [f6]; exact K5.2.2.2.2.2.2
            refine ⟨rfl, W6, h6, by rw [bb, fi1 a0], F6t, f61, ?_, ?_⟩
            · exact K5.2.2.2.2.1.w (F6.2.2.2.2.2.1 p (by omega) (by omega)).1 K6.2.2.2
            · have x5 := K5.2.2.2.2.2.1
              intro k hk
              have := x5 k hk
              show hAL h6 (p + 6) k = -1
              rw [(F6.2.2.2.2.2.1 (p + 6) (by omega) (by omega)).2.2.2]
              exact this
          · rw [if_neg a0]
            left
            exact ⟨n10, sI h6 (c + 55) 1 1, by rw [bb, fi2 a0], F6t.tr (CG.I55 1 1), e_Iself _ _ _ _, by rw [e_sI, if_neg (by omega)]; exact K6.1.2.2.1⟩
      · rw [if_neg a6] at iw6
        have wF' : whF g n B u = 0 := by unfold whF; rw [if_neg a6]
        have wT' : whT g n B u = u := by unfold whT; rw [if_neg a6]
        have wW' : whW g n B u = noT := by unfold whW; rw [if_neg a6]
        rw [wF', wT', wW', if_pos rfl]
        obtain ⟨fi1, fi2⟩ := fin _ h4 K4.1 G4
        have bb : mX8_readTable h (c + 55) (Int32.ofNat n) (some p) (some bo) = mX8_readTable_b55 h4 (c + 55) := by
          rw [base _ e3, if_neg n10, b_rcv, if_pos (by exact K553), e4, o_bind, if_neg n10, b_rcv, if_pos (by exact K554), iw6, o_bind, if_pos rfl]
        by_cases a0 : kK u = 0
        · rw [if_pos a0]
          right
          exact ⟨rfl, noT_W _, h4, by rw [bb, fi1 a0], F4t, K4.2.2.2.2.2.2, K4.2.2.2.2.1, K4.2.2.2.2.2.1⟩
        · rw [if_neg a0]
          left
          exact ⟨n10, sI h4 (c + 55) 1 1, by rw [bb, fi2 a0], F4t.tr (CG.I55 1 1), e_Iself _ _ _ _, by rw [e_sI, if_neg (by omega)]; exact K4.1.2.2.1⟩

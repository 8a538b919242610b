/-! reading a line: the class's -/
def addN (B : Bk) (T : Ts) : Bk := (bF B, bN B + 1, bT B, bC B, va_up (bR B) (bN B) T, bM B)
theorem addN_F (B : Bk) (T : Ts) : bF (addN B T) = bF B := (rfl)
theorem addN_N (B : Bk) (T : Ts) : bN (addN B T) = bN B + 1 := (rfl)
theorem addN_R (B : Bk) (T : Ts) (k : Nat) : bR (addN B T) k = if k = bN B then T else bR B k := (rfl)
theorem addN_sp (B : Bk) (T : Ts) : ∀ k : Nat, spT (addN B T) k = spT B k
  | 0 => rfl
  | k + 1 => by
    show spT (addN B T) k * (bT B k + 1) = spT B k * (bT B k + 1)
    rw [addN_sp B T k]
def FB (c bo : Nat) (h h' : MHp) : Prop := hK h' = hK h ∧ hN h' = hN h ∧ hR h' = hR h ∧ hAR h' = hAR h ∧ hS h' = hS h ∧ (∀ a : Nat, a ≠ c + 55 → a < bo ∨ bo + 53 ≤ a → hI h' a = hI h a ∧ hL h' a = hL h a ∧ hAI h' a = hAI h a ∧ hAL h' a = hAL h a) ∧ hI h' (c + 55) 3 = hI h (c + 55) 3
theorem FB.tr {c bo : Nat} {h h1 h2 : MHp} (A : FB c bo h h1) (B : FB c bo h1 h2) : FB c bo h h2 := by
  obtain ⟨a1, a2, a3, a4, a5, a6, a7⟩ := A
  obtain ⟨b1, b2, b3, b4, b5, b6, b7⟩ := B
  refine ⟨b1.trans a1, b2.trans a2, b3.trans a3, b4.trans a4, b5.trans a5, fun a ha hu => ?_, b7.trans a7⟩
  obtain ⟨x1, x2, x3, x4⟩ := a6 a ha hu
  obtain ⟨y1, y2, y3, y4⟩ := b6 a ha hu
  exact ⟨y1.trans x1, y2.trans x2, y3.trans x3, y4.trans x4⟩
theorem FT.fb {c u bo : Nat} {h h' : MHp} (F : FT c u h h') (d : bo ≤ u ∧ u + 4 ≤ bo + 53) : FB c bo h h' := by
  obtain ⟨a1, a2, a3, a4, a5, a6, a7⟩ := F
  exact ⟨a1, a2, a3, a4, a5, fun a ha hu => a6 a ha (by omega), a7⟩
def CFB (c bo : Nat) (h : MHp) (F : Option (Int32 × MHp)) (f : Int32) (t : Tok) : Prop := ∃ h' : MHp, F = some (0, h') ∧ FB c bo h h' ∧ hI h' (c + 55) 1 = f ∧ hI h' (c + 55) 2 = Int32.ofNat (kS t)
def nvF (g : Nat → Int32) (n : Nat) (B : Bk) (t : Tok) : Int32 := if bN B < 12 then (tstR g n B (nxt g n t)).1 else 5
def nvT (g : Nat → Int32) (n : Nat) (B : Bk) (t : Tok) : Tok := if bN B < 12 then (tstR g n B (nxt g n t)).2.1 else t
def rlF (g : Nat → Int32) (n : Nat) (B : Bk) (t : Tok) : Int32 := if isW t 0 = true then rfF g n B (nxt g n t) else (if isW t 1 = true then nvF g n B t else 1)
/-- where a line's reading ends, well or not -/
def rlT (g : Nat → Int32) (n : Nat) (B : Bk) (t : Tok) : Tok := if isW t 0 = true then (if rfF g n B (nxt g n t) = 0 then rfN g n (nxt g n t) else rfT g n B (nxt g n t)) else (if isW t 1 = true then nvT g n B t else t)
def rlB (g : Nat → Int32) (n : Nat) (B : Bk) (t : Tok) : Bk := if isW t 0 = true then rfB g n B (nxt g n t) else addN B (tstR g n B (nxt g n t)).2.2
theorem p_readLine {c bo n : Nat} {g : Nat → Int32} {B : Bk} {t : Tok} {h : MHp} (hbo : bo = c + 2 ∨ bo = c + 57) (W : WBk B) (G : GT g n t) (K : Kb c bo g n B t h) : (rlF g n B t ≠ 0 ∧ CFB c bo h (mX8_readLine h (c + 55)) (rlF g n B t) (rlT g n B t)) ∨ rlF g n B t = 0 ∧ WBk (rlB g n B t) ∧ GT g n (rlT g n B t) ∧ ∃ h' : MHp, mX8_readLine h (c + 55) = some (1, h') ∧ FB c bo h h' ∧ hI h' (c + 55) 1 = hI h (c + 55) 1 ∧ Kb c bo g n (rlB g n B t) (rlT g n B t) h' := by
  have WN := W.nw
  have w12 := W.1.2.1
  obtain ⟨P, N, C, s6⟩ := id K
  have K55 := lK55 P.1.1
  have iw0 := p_isWord P G (show 0 < 9 by omega) cw0
  have iw1 := p_isWord P G (show 1 < 9 by omega) cw1
  have db : bo ≤ bo ∧ bo + 4 ≤ bo + 53 := by omega
  by_cases a0 : isW t 0 = true
  · rw [if_pos a0] at iw0
    obtain ⟨h1, e1, S1, P1, G1⟩ := P.st (by have := isW_1 a0; omega)
    have K1 := K.sp hbo w12 S1 P1
    have K551 := lK55 P1.1.1
    have base : mX8_readLine h (c + 55) = (mX8_readField h1 (c + 55)).bind fun r33 => (rB r33.1).bind fun _ => some (r33.1, r33.2) := by
      rw [mX8_readLine, b_rcv, if_pos K55, iw0, o_bind, if_neg n10, b_rcv, if_pos K55, e1, o_bind, b_rcv, if_pos K551]
    have eF : rlF g n B t = rfF g n B (nxt g n t) := by unfold rlF; rw [if_pos a0]
    have eB : rlB g n B t = rfB g n B (nxt g n t) := by unfold rlB; rw [if_pos a0]
    rw [eF, eB]
    rcases p_readField hbo W G1 K1 with ⟨ne, h2, e2, F2, f2, x2⟩ | ⟨e0, h2, e2, F2, f2, K2, G2⟩
    · have eT : rlT g n B t = rfT g n B (nxt g n t) := by unfold rlT; rw [if_pos a0, if_neg ne]
      rw [eT]
      left
      exact ⟨ne, h2, by rw [base, e2, o_bind, rB0, o_bind], ((S1.ft (u := bo)).tr F2).fb db, f2, x2⟩
    · have eT : rlT g n B t = rfN g n (nxt g n t) := by unfold rlT; rw [if_pos a0, if_pos e0]
      rw [eT]
      right
      exact ⟨e0, rfB_ok W G1 e0, G2, h2, by rw [base, e2, o_bind, rB1, o_bind], ((S1.ft (u := bo)).tr F2).fb db, by rw [f2, S1.2.2.2.2.2.2.2.2.2], K2⟩
  · rw [if_neg a0] at iw0
    have eF0 : rlF g n B t = if isW t 1 = true then nvF g n B t else 1 := by unfold rlF; rw [if_neg a0]
    have eT0 : rlT g n B t = if isW t 1 = true then nvT g n B t else t := by unfold rlT; rw [if_neg a0]
    have eB : rlB g n B t = addN B (tstR g n B (nxt g n t)).2.2 := by unfold rlB; rw [if_neg a0]
    rw [eF0, eT0, eB]
    obtain ⟨n1, n2, n3, n4⟩ := id N
    obtain ⟨c1, c2, c3, c4⟩ := id C
    by_cases a1 : isW t 1 = true
    · rw [if_pos a1] at iw1
      rw [if_pos a1, if_pos a1]
      have nb0 : ¬ Int32.ofNat (bN B) < 0 := nlt0 (by omega)
      have lt12 : (Int32.ofNat (bN B) < 12) = (bN B < 12) := by rw [show (12 : Int32) = Int32.ofNat 12 from rfl, lt_of' (by omega) (by omega)]
      by_cases a2 : bN B < 12
      · have eF : nvF g n B t = (tstR g n B (nxt g n t)).1 := by unfold nvF; rw [if_pos a2]
        have eT : nvT g n B t = (tstR g n B (nxt g n t)).2.1 := by unfold nvT; rw [if_pos a2]
        rw [eF, eT]
        obtain ⟨t1, It⟩ := n2.2.2.2.2.2.2.2.2.2.2.2.2.2 (bN B) a2
        obtain ⟨i1, i2, i3, i4, i5, i6, i7, i8, i9, i10, i11, i12, i13, i14⟩ := id n2
        have D : Du c bo (bo + 5 + 4 * bN B) := ⟨by omega, by omega, by omega, by omega⟩
        have du : bo ≤ bo + 5 + 4 * bN B ∧ bo + 5 + 4 * bN B + 4 ≤ bo + 53 := by omega
        obtain ⟨h1, e1, C1, F1⟩ := p_clear It
        have FT1 : FT c (bo + 5 + 4 * bN B) h h1 := F1.ft (by omega)
        have P1 : PC c g n t h1 := F1.PC D.1 P
        obtain ⟨h2, e2, S2, P2, G2⟩ := P1.st (by have := isW_1 a1; omega)
        have K1 : Kt c bo (bo + 5 + 4 * bN B) g n B noT t h1 := ⟨P1, FT1.NB N D.2.1 D.2.2, F1.IsT It, C1⟩
        have K2 := K1.sp D S2 P2
        have bd := bad_n (k := bN B) (n := 12) a2 (by omega)
        have cl : (Int32.ofNat (bN B)).toNatClampNeg = bN B := cl_of (by omega)
        have base : mX8_readLine h (c + 55) = (mX8_readTest h2 (c + 55) (some (bo + 5 + 4 * bN B))).bind fun r20 => (if r20.1 = 0 then some (0, r20.2) else (gR 9 8 r20.2 (some (c + 55))).bind fun x22 => (gI 2 5 r20.2 x22).bind fun x23 => (pI 2 5 r20.2 x22 (x23 + 1)).bind fun h24 => some (1, h24)) := by
          rw [mX8_readLine, b_rcv, if_pos K55, iw0, o_bind, if_pos rfl, b_rcv, if_pos K55, iw1, o_bind, if_neg n10, b_gR, if_pos K55, n1, b_gI, if_pos i1, c2, if_neg nb0, b_gR, if_pos K55, n1, b_gI, if_pos i1, c2, if_pos (by rw [lt12]; exact a2), b_gR, if_pos K55, n1, b_gR, if_pos i1, i5, b_gR, if_pos K55, n1, b_gI, if_pos i1, c2, b_gAR, if_pos i9, i13, if_neg bd, cl, t1, b_rcv, if_pos It.1, e1, o_bind, b_rcv, if_pos (lK55 P1.1.1), e2, o_bind, b_rcv, if_pos (lK55 P2.1.1)]
        have F02 : FT c (bo + 5 + 4 * bN B) h h2 := FT1.tr S2.ft
        rcases p_readTest D WN G2 K2 with ⟨ne, h3, e3, F3, f3, x3⟩ | ⟨e0, G3, W3, h3, e3, F3, f3, K3⟩
        · left
          exact ⟨ne, h3, by rw [base, e3, o_bind, if_pos rfl], (F02.tr F3).fb du, f3, x3⟩
        · right
          have FF := F02.tr F3
          have K553 := lK55 K3.1.1.1
          have hb3 : hI h3 bo = hI h bo := (FF.2.2.2.2.2.1 bo (by omega) (by omega)).1
          have F4x : F4 bo h3 (sI h3 bo 5 (Int32.ofNat (bN B + 1))) := F4.I 5 _
          have F5 : FT c bo h3 (sI h3 bo 5 (Int32.ofNat (bN B + 1))) := F4x.ft (by omega)
          refine ⟨e0, ?_, G3, sI h3 bo 5 (Int32.ofNat (bN B + 1)), ?_, (FF.fb du).tr (F5.fb db), ?_, F4x.PC (by omega) K3.1, ⟨?_, F5.IsB (FF.IsB n2), ?_, fun f hf => ?_⟩, ⟨?_, ?_, fun f hf => ?_, fun k hk => ?_⟩, ?_⟩
          · obtain ⟨⟨w1, w2, w3, w4⟩, w5, w6⟩ := W
            refine ⟨⟨w1, by rw [addN_N]; omega, w3, fun k hk => ?_⟩, w5, by rw [addN_F, addN_sp]; exact w6⟩
            rw [addN_N] at hk
            rw [addN_F, addN_R]
            by_cases q : k = bN B
            · rw [if_pos q]; exact W3
            · rw [if_neg q]; exact w4 k (by omega)
          · rw [base, e3, o_bind, if_neg n10, b_gR, if_pos K553, K3.2.1.1, b_gI, if_pos K3.2.1.2.1.1, hb3, c2, b_pI, if_pos K3.2.1.2.1.1, s1_of]
          · rw [e_sI, if_neg (by omega), f3, S2.2.2.2.2.2.2.2.2.2, (F1.2.2.2.2.2 (c + 55) (by omega)).1]
          · exact K3.2.1.1
          · rw [e_sI, if_neg (by omega), hb3, addN_F]; exact n3
          · exact K3.2.1.2.2.2 f hf
          · rw [e_sI, if_neg (by omega), hb3, addN_F]; exact c1
          · rw [e_Iself, addN_N]
          · rw [e_AI_sI, (FF.2.2.2.2.2.1 (bo + 2) (by omega) (by omega)).2.2.1, (FF.2.2.2.2.2.1 (bo + 3) (by omega) (by omega)).2.2.1]
            exact c3 f hf
          · rw [addN_N] at hk
            rw [addN_R]
            by_cases q : k = bN B
            · subst q
              rw [if_pos rfl]
              exact F4x.CT (by omega) K3.2.2.2
            · rw [if_neg q]
              refine F4x.CT (by omega) (CT.ag (fun a x y => ?_) (c4 k (by omega)))
              obtain ⟨z1, z2, z3, z4⟩ := FF.2.2.2.2.2.1 a (by omega) (by omega)
              exact ⟨by rw [FF.1], by rw [FF.2.1], z1, z2, by rw [FF.2.2.1], z3, z4, by rw [FF.2.2.2.1]⟩
          · rw [e_sI, if_neg (by omega), hb3, addN_F, addN_sp]; exact s6
      · have eF : nvF g n B t = 5 := by unfold nvF; rw [if_neg a2]
        have eT : nvT g n B t = t := by unfold nvT; rw [if_neg a2]
        rw [eF, eT]
        left
        refine ⟨n50, sI h (c + 55) 1 5, ?_, (FT.I1 (u := bo) 5).fb db, e_Iself _ _ _ _, by rw [e_sI, if_neg (by omega)]; exact P.2.2.1⟩
        rw [mX8_readLine, b_rcv, if_pos K55, iw0, o_bind, if_pos rfl, b_rcv, if_pos K55, iw1, o_bind, if_neg n10, b_gR, if_pos K55, n1, b_gI, if_pos n2.1, c2, if_neg nb0, b_gR, if_pos K55, n1, b_gI, if_pos n2.1, c2, if_neg (by rw [lt12]; exact a2), mX8_readLine_b57, b_rcv, if_pos K55, mX8_fail, b_pI, if_pos K55, o_bind, rB0, o_bind]
    · rw [if_neg a1] at iw1
      rw [if_neg a1, if_neg a1]
      left
      refine ⟨n10, sI h (c + 55) 1 1, ?_, (FT.I1 (u := bo) 1).fb db, e_Iself _ _ _ _, by rw [e_sI, if_neg (by omega)]; exact P.2.2.1⟩
      rw [mX8_readLine, b_rcv, if_pos K55, iw0, o_bind, if_pos rfl, b_rcv, if_pos K55, iw1, o_bind, if_pos rfl, b_rcv, if_pos K55, mX8_fail, b_pI, if_pos K55, o_bind, rB0, o_bind]

/-! reading a field: the reference's, whole -/
theorem FQ.AL {m u : Nat} {h : MHp} (k : Nat) (g : Nat → Int64) (hk : k < 5) : FQ m u h (sAL h (u + k) g) :=
  ⟨Nat.le_refl _, fun a _ => ⟨rfl, rfl, rfl, rfl, fun hu => ⟨rfl, by rw [e_sAL, if_neg (by omega)], fun _ _ => ⟨rfl, rfl⟩⟩⟩, fun _ _ => rfl⟩
theorem PR.al {m n a : Nat} {g : Nat → Int32} {t : Tok} {h : MHp} (x : Nat → Int64) (P : PR m g n t h) : PR m g n t (sAL h a x) := P
theorem FQ.RIB {m u b : Nat} {h h' : MHp} (F : FQ m u h h') (d : b + 5 ≤ hS h) (I : RIB h b) : RIB h' b := by
  obtain ⟨i1, i2, i3, i4, i5, i6, i7, i8, i9, i10, i11, i12, i13⟩ := I
  obtain ⟨x1, x2, x3, x4, x5⟩ := F.2.1 b (by omega)
  obtain ⟨y1, y2, y3, y4, y5⟩ := F.2.1 (b + 1) (by omega)
  obtain ⟨z1, z2, z3, z4, z5⟩ := F.2.1 (b + 2) (by omega)
  obtain ⟨v1, v2, v3, v4, v5⟩ := F.2.1 (b + 3) (by omega)
  obtain ⟨w1, w2, w3, w4, w5⟩ := F.2.1 (b + 4) (by omega)
  exact ⟨by rw [x1]; exact i1, by rw [x3]; exact i2, by rw [x3]; exact i3, by rw [x3]; exact i4, by rw [x3]; exact i5, by rw [y1]; exact i6, by rw [z1]; exact i7, by rw [v1]; exact i8, by rw [w1]; exact i9, by rw [y2]; exact i10, by rw [z2]; exact i11, by rw [v2]; exact i12, by rw [w2]; exact i13⟩
theorem q_readField {m b n : Nat} {g : Nat → Int32} {B : Bk} {t0 : Tok} {h : MHp} (hb : ∀ k : Nat, (g k).toInt8.toInt32 = g k) (W : WBk B) (G0 : GT g n t0) (k0 : kK t0 = 1) (Q : Qb m b g n B t0 h) : (rfF g n B (nxt g n t0) ≠ 0 → RFl m b h (mX16_readField h m) (rfF g n B (nxt g n t0)) (rfT g n B (nxt g n t0))) ∧ (rfF g n B (nxt g n t0) = 0 → ∃ h2 : MHp, mX16_readField h m = some (Sum.inl (), h2) ∧ FQ m b h h2 ∧ Qb m b g n (rfB g n B (nxt g n t0)) (rfN g n (nxt g n t0)) h2) := by
  have n30 : ¬ (3 : Int32) = 0 := by decide
  have WN := W.nw
  have w6 := W.1.1
  have w12 := W.1.2.1
  have sp := W.2.2
  obtain ⟨P0, b50, R0⟩ := Q
  have bS := R0.2.2.2.2.1
  have L0 := P0.1.1
  obtain ⟨h1, e1, S1, P⟩ := P0.st hb (by omega)
  have G : GT g n (nxt g n t0) := G0.nx
  generalize nxt g n t0 = t at P G ⊢
  have L := P.1.1
  have F1 : FQ m b h h1 := S1.fq
  have I1 : RIB h1 b := F1.RIB bS.2 R0.1
  have b51 : hR h1 m 5 = some b := by rw [S1.2.2.1]; exact b50
  have n0 : hI h1 b 0 = Int32.ofNat (bF B) := by rw [(S1.2.2.2.2.2.2.2.1 b (by omega)).1]; exact R0.2.1
  have nm : ∀ f : Nat, f < bF B → hAL h1 (b + 1) f = rwd (bM B f) := fun f hf => by rw [S1.2.2.2.2.2.1]; exact (R0.2.2.2.1 f hf).1
  obtain ⟨i1, i2, i3, i4, i5, i6, i7, i8, i9, i10, i11, i12, i13⟩ := id I1
  have iN := q_isName P G
  by_cases a1 : isN t = true
  · rw [if_pos a1] at iN
    have k1 := isN_1 a1
    have eL := P.w G k1
    have ef := q_fieldOf I1 n0 w6 nm WN.2 (tk_w G k1).1
    have le := fN_le B (kL t)
    by_cases a2 : fN B (kL t) < bF B
    · have oF' : rfF g n B t = 3 := by unfold rfF; rw [if_pos a1, if_pos a2]
      have oT' : rfT g n B t = t := by unfold rfT; rw [if_pos a1, if_pos a2]
      rw [oF', oT']
      refine ⟨fun _ => RFl.at 3 F1 P ?_, fun hh => absurd hh n30⟩
      have fr : fR B (kL t) = Int32.ofNat (fN B (kL t)) := by unfold fR; rw [if_pos a2]
      rw [mX16_readField, b_rcv, if_pos (qK0 L0), e1, o_bind, b_rcv, if_pos (qK0 L), iN, o_bind, if_neg n10, b_gR, if_pos (qK0 L), b51, b_gL, if_pos (qK0 L), eL, b_rcv, if_pos i1, ef, o_bind, fr, if_neg (nm_of (by omega)), b_rcv, if_pos (qK0 L), q_thr L]
    · have fr : fR B (kL t) = -1 := by unfold fR; rw [if_neg a2]
      by_cases a3 : bF B < 6
      · have n6 : ¬ Int32.ofNat (bF B) = 6 := by rw [show (6 : Int32) = Int32.ofNat 6 from rfl, eq_of (by omega) (by omega)]; omega
        have bd := bad_n (k := bF B) (n := 6) a3 (by omega)
        have cl : (Int32.ofNat (bF B)).toNatClampNeg = bF B := cl_of (by omega)
        obtain ⟨X0, hX0⟩ : ∃ X : MHp, X = sAL h1 (b + 1) (va_up (hAL h1 (b + 1)) (bF B) (rwd (kL t))) := ⟨_, rfl⟩
        obtain ⟨X, hX⟩ : ∃ X : MHp, X = sI X0 b 0 (Int32.ofNat (bF B + 1)) := ⟨_, rfl⟩
        have FX0 : FQ m b h1 X0 := by rw [hX0]; exact FQ.AL 1 _ (by omega)
        have FX : FQ m b X0 X := by rw [hX]; exact FQ.I 0 _ (by omega)
        have PX0 : PR m g n t X0 := by rw [hX0]; exact P.al _
        have PX : PR m g n t X := by rw [hX]; exact PX0.ix _ (by omega)
        have hSX : hS X = hS h1 := by rw [hX, hX0]; rfl
        have LX0 := PX0.1.1
        have LX := PX.1.1
        have S1S := S1.2.2.2.2.2.2.1
        have I0 : RIB X0 b := FX0.RIB (by rw [S1S]; exact bS.2) I1
        have b5X0 : hR X0 m 5 = some b := by rw [hX0]; exact b51
        have n0X0 : hI X0 b 0 = Int32.ofNat (bF B) := by rw [hX0]; exact n0
        obtain ⟨X2, e2, S2, P2⟩ := PX.st hb (by omega)
        have G2 : GT g n (nxt g n t) := G.nx
        have L2 := P2.1.1
        have baseA : ∀ (q : Nat) (hq : MHp), mX16_needWord X2 m 7 = some (Sum.inr q, hq) → mX16_readField h m = some (Sum.inr q, hq) := fun q hq en => by
          rw [mX16_readField, b_rcv, if_pos (qK0 L0), e1, o_bind, b_rcv, if_pos (qK0 L), iN, o_bind, if_neg n10, b_gR, if_pos (qK0 L), b51, b_gL, if_pos (qK0 L), eL, b_rcv, if_pos i1, ef, o_bind, fr, if_pos rfl, b_gR, if_pos (qK0 L), b51, b_gI, if_pos i1, n0, if_neg n6, b_gR, if_pos (qK0 L), b51, b_gI, if_pos i1, n0, b_gR, if_pos (qK0 L), b51, b_gR, if_pos i1, i2, b_gL, if_pos (qK0 L), eL, b_pAL, if_pos i6, i10, if_neg bd, cl, ← hX0, b_gR, if_pos (qK0 LX0), b5X0, b_gI, if_pos I0.1, n0X0, b_pI, if_pos I0.1, s1_of, ← hX, b_rcv, if_pos (qK0 LX), e2, o_bind, b_rcv, if_pos (qK0 L2), en, o_bind]
        have baseB : ∀ X3 : MHp, mX16_needWord X2 m 7 = some (Sum.inl (), X3) → mX16_readField h m = (gI 17 13 X3 (some m)).bind fun x62 => (if x62 = 3 then (gI 17 16 X3 (some m)).bind fun x63 => (mX16_in X3 x63 1 9).bind fun r64 => (if r64 = 0 then (rcv 17 X3 (some m)).bind fun b67 => (mX16_stop X3 b67 4).bind fun r66 => (rcv 14 r66.2 r66.1).bind fun q68 => some (Sum.inr q68, r66.2) else (gI 17 16 X3 (some m)).bind fun x65 => mX16_readField_l142 FUEL X3 m (Int32.ofNat (bF B)) (x65 + 1) 0) else (rcv 17 X3 (some m)).bind fun b71 => (mX16_stop X3 b71 1).bind fun r70 => (rcv 14 r70.2 r70.1).bind fun q72 => some (Sum.inr q72, r70.2)) := fun X3 en => by
          rw [mX16_readField, b_rcv, if_pos (qK0 L0), e1, o_bind, b_rcv, if_pos (qK0 L), iN, o_bind, if_neg n10, b_gR, if_pos (qK0 L), b51, b_gL, if_pos (qK0 L), eL, b_rcv, if_pos i1, ef, o_bind, fr, if_pos rfl, b_gR, if_pos (qK0 L), b51, b_gI, if_pos i1, n0, if_neg n6, b_gR, if_pos (qK0 L), b51, b_gI, if_pos i1, n0, b_gR, if_pos (qK0 L), b51, b_gR, if_pos i1, i2, b_gL, if_pos (qK0 L), eL, b_pAL, if_pos i6, i10, if_neg bd, cl, ← hX0, b_gR, if_pos (qK0 LX0), b5X0, b_gI, if_pos I0.1, n0X0, b_pI, if_pos I0.1, s1_of, ← hX, b_rcv, if_pos (qK0 LX), e2, o_bind, b_rcv, if_pos (qK0 L2), en, o_bind]
        have F2 : FQ m b h X2 := ((F1.tr FX0).tr FX).tr S2.fq
        have X2S : hS X2 = hS h1 := by rw [S2.2.2.2.2.2.2.1, hSX]
        have I2 : RIB X2 b := S2.fq (u := b) |>.RIB (by rw [hSX, S1S]; exact bS.2) (FX.RIB (by rw [hX0]; show b + 5 ≤ hS h1; rw [S1S]; exact bS.2) I0)
        have b52 : hR X2 m 5 = some b := by rw [S2.2.2.1, hX]; exact b5X0
        rcases q_need hb P2 G2 (show 7 < 9 by omega) with ⟨nw, en⟩ | ⟨w, X3, en, S3, P3⟩
        · have dg : dgF g n 7 (nxt g n t) = 1 := by unfold dgF; rw [if_neg nw]
          have dt : dgT g n 7 (nxt g n t) = nxt g n t := by unfold dgT; rw [if_neg nw]
          have oF' : rfF g n B t = 1 := by unfold rfF; rw [if_pos a1, if_neg a2, if_pos a3, dg, if_neg n10]
          have oT' : rfT g n B t = nxt g n t := by unfold rfT; rw [if_pos a1, if_neg a2, if_pos a3, dg, if_neg n10, dt]
          rw [oF', oT']
          exact ⟨fun _ => RFl.at 1 F2 P2 (baseA _ _ en), fun hh => absurd hh n10⟩
        · have base := baseB X3 en
          have G3 : GT g n (nxt g n (nxt g n t)) := G2.nx
          have L3 := P3.1.1
          have k5 := kK_5 G3
          have F3 : FQ m b h X3 := F2.tr S3.fq
          have dt : dgT g n 7 (nxt g n t) = nxt g n (nxt g n t) := by unfold dgT; rw [if_pos w]
          have kd : (rcd (kK (nxt g n (nxt g n t))) = 3) = (kK (nxt g n (nxt g n t)) = 2) := rcd_2 k5
          by_cases a4 : kK (nxt g n (nxt g n t)) = 2
          · have x16 : hI X3 m 16 = kV (nxt g n (nxt g n t)) := P3.2.2.2.2.2.2.1 a4
            by_cases a5 : 1 ≤ kV (nxt g n (nxt g n t)) ∧ kV (nxt g n (nxt g n t)) ≤ 9
            · obtain ⟨v, v1, v2, ev⟩ := dg_v a5.1 a5.2
              have rv : rfV (nxt g n (nxt g n t)) = v := by unfold rfV; rw [ev, cl_of (by omega)]
              have dg : dgF g n 7 (nxt g n t) = 0 := by unfold dgF; rw [if_pos w, if_pos a4, if_pos a5]
              have x16v : hI X3 m 16 = Int32.ofNat v := by rw [x16, ev]
              have b53 : hR X3 m 5 = some b := by rw [S3.2.2.1]; exact b52
              have I3 : RIB X3 b := S3.fq (u := b) |>.RIB (by rw [X2S, S1S]; exact bS.2) I2
              obtain ⟨j1, j2, j3, j4, j5, j6, j7, j8, j9, j10, j11, j12, j13⟩ := id I3
              have A3 : hAI X3 = hAI h := by rw [S3.2.2.2.2.1, S2.2.2.2.2.1, hX, hX0]; exact S1.2.2.2.2.1
              have sm : spT B (bF B) * (v + 1) ≤ 200000 := by
                have := Nat.mul_le_mul sp (show v + 1 ≤ 10 by omega)
                omega
              have go : ∀ e : Option ((Unit ⊕ Nat) × MHp), (∀ fu : Nat, mX16_readField_l142 (fu + 1) X3 m (Int32.ofNat (bF B)) (Int32.ofNat ((v + 1) * spT B (bF B))) (Int32.ofNat (bF B)) = e) → mX16_readField h m = e := fun e he => by
                have es := q_space P3 b53 I3 (fun f hf => by rw [A3]; exact (R0.2.2.2.1 f hf).2.1) a3 sp v2 x16v e he (bF B) 0 FUEL (by omega) (by unfold FUEL; omega)
                have es' : mX16_readField_l142 FUEL X3 m (Int32.ofNat (bF B)) (Int32.ofNat v + 1) 0 = e := by
                  rw [s1_of, show v + 1 = (v + 1) * spT B 0 from (Nat.mul_one _).symm]; exact es
                rw [base, b_gI, if_pos (qK0 L3), P3.2.2.2.1, if_pos (by rw [kd]; exact a4), b_gI, if_pos (qK0 L3), x16, q_in, if_pos a5, o_bind, if_neg n10, b_gI, if_pos (qK0 L3), x16v, es']
              have cm : (v + 1) * spT B (bF B) = spT B (bF B) * (v + 1) := Nat.mul_comm _ _
              have lr : Int32.ofNat (bF B) ≤ Int32.ofNat (bF B) := Int32.le_refl _
              by_cases a6 : spT B (bF B) * (v + 1) ≤ 20000
              · have le2 : Int32.ofNat ((v + 1) * spT B (bF B)) ≤ 20000 := by rw [cm, show (20000 : Int32) = Int32.ofNat 20000 from rfl, le_of (by omega) (by omega)]; exact a6
                obtain ⟨X4, hX4⟩ : ∃ X : MHp, X = sAI X3 (b + 2) (va_up (hAI X3 (b + 2)) (bF B) (Int32.ofNat v)) := ⟨_, rfl⟩
                have F34 : FQ m b X3 X4 := by rw [hX4]; exact FQ.AI 2 _ (by omega)
                have P4 : PR m g n (nxt g n (nxt g n t)) X4 := by rw [hX4]; exact P3.ai _ (by omega)
                have L4 := P4.1.1
                obtain ⟨X5, e5, S5, P5⟩ := P4.st hb (by omega)
                have G5 := G3.nx
                have L5 := P5.1.1
                have F5 : FQ m b h X5 := (F3.tr F34).tr S5.fq
                rcases q_need hb P5 G5 (show 8 < 9 by omega) with ⟨nw, en2⟩ | ⟨w2, X6, en2, S6, P6⟩
                · have dg2 : dgF g n 8 (nxt g n (nxt g n (nxt g n t))) = 1 := by unfold dgF; rw [if_neg nw]
                  have dt2 : dgT g n 8 (nxt g n (nxt g n (nxt g n t))) = nxt g n (nxt g n (nxt g n t)) := by unfold dgT; rw [if_neg nw]
                  have oF' : rfF g n B t = 1 := by unfold rfF; rw [if_pos a1, if_neg a2, if_pos a3, if_pos dg, rv, if_pos a6, dg2]
                  have oT' : rfT g n B t = nxt g n (nxt g n (nxt g n t)) := by unfold rfT; rw [if_pos a1, if_neg a2, if_pos a3, if_pos dg, rv, if_pos a6, dt2]
                  rw [oF', oT']
                  refine ⟨fun _ => RFl.at 1 F5 P5 (go _ (fun fu => ?_)), fun hh => absurd hh n10⟩
                  rw [mX16_readField_l142, if_pos lr, if_pos le2, b_gR, if_pos (qK0 L3), b53, b_gR, if_pos j1, j3, b_gI, if_pos (qK0 L3), x16v, b_pAI, if_pos j7, j11, if_neg bd, cl, ← hX4, b_rcv, if_pos (qK0 L4), e5, o_bind, b_rcv, if_pos (qK0 L5), en2, o_bind]
                · have G6 := G5.nx
                  have L6 := P6.1.1
                  have k56 := kK_5 G6
                  have F6 : FQ m b h X6 := F5.tr S6.fq
                  have dt2 : dgT g n 8 (nxt g n (nxt g n (nxt g n t))) = nxt g n (nxt g n (nxt g n (nxt g n t))) := by unfold dgT; rw [if_pos w2]
                  have kd2 : (rcd (kK (nxt g n (nxt g n (nxt g n (nxt g n t))))) = 3) = (kK (nxt g n (nxt g n (nxt g n (nxt g n t)))) = 2) := rcd_2 k56
                  by_cases a7 : kK (nxt g n (nxt g n (nxt g n (nxt g n t)))) = 2
                  · have y16 : hI X6 m 16 = kV (nxt g n (nxt g n (nxt g n (nxt g n t)))) := P6.2.2.2.2.2.2.1 a7
                    by_cases a8 : 1 ≤ kV (nxt g n (nxt g n (nxt g n (nxt g n t)))) ∧ kV (nxt g n (nxt g n (nxt g n (nxt g n t)))) ≤ 9
                    · obtain ⟨wv, y1, y2, ew⟩ := dg_v a8.1 a8.2
                      have rw8 : rfV (nxt g n (nxt g n (nxt g n (nxt g n t)))) = wv := by unfold rfV; rw [ew, cl_of (by omega)]
                      have dg2 : dgF g n 8 (nxt g n (nxt g n (nxt g n t))) = 0 := by unfold dgF; rw [if_pos w2, if_pos a7, if_pos a8]
                      have oF' : rfF g n B t = 0 := by unfold rfF; rw [if_pos a1, if_neg a2, if_pos a3, if_pos dg, rv, if_pos a6, dg2]
                      have oB' : rfB g n B t = addF B (kL t) v wv := by unfold rfB; rw [rv, rw8]
                      have y16v : hI X6 m 16 = Int32.ofNat wv := by rw [y16, ew]
                      have b56 : hR X6 m 5 = some b := by rw [S6.2.2.1, S5.2.2.1, hX4]; exact b53
                      have S3S : hS X3 = hS h := by rw [S3.2.2.2.2.2.2.1, X2S, S1S]
                      have I6 : RIB X6 b := ((F34.tr S5.fq).tr S6.fq).RIB (by rw [S3S]; exact bS.2) I3
                      obtain ⟨l1, l2, l3, l4, l5, l6, l7, l8, l9, l10, l11, l12, l13⟩ := id I6
                      obtain ⟨X7, hX7⟩ : ∃ X : MHp, X = sAI X6 (b + 3) (va_up (hAI X6 (b + 3)) (bF B) (Int32.ofNat wv)) := ⟨_, rfl⟩
                      have F67 : FQ m b X6 X7 := by rw [hX7]; exact FQ.AI 3 _ (by omega)
                      have P7 : PR m g n (nxt g n (nxt g n (nxt g n (nxt g n t)))) X7 := by rw [hX7]; exact P6.ai _ (by omega)
                      have L7 := P7.1.1
                      obtain ⟨X8, e8, S8, P8⟩ := P7.st hb (by omega)
                      have F8 : FQ m b h X8 := (F6.tr F67).tr S8.fq
                      have eAI : hAI X8 = hAI X7 := S8.2.2.2.2.1
                      have eAL : hAL X8 = hAL X0 := by rw [S8.2.2.2.2.2.1, hX7, e_AL_sAI, S6.2.2.2.2.2.1, S5.2.2.2.2.2.1, hX4, e_AL_sAI, S3.2.2.2.2.2.1, S2.2.2.2.2.2.1, hX]; rfl
                      have ne : b ≠ m := by omega
                      have eI : hI X8 b = hI X b := by rw [(S8.2.2.2.2.2.2.2.1 b ne).1, hX7, e_I_sAI, (S6.2.2.2.2.2.2.2.1 b ne).1, (S5.2.2.2.2.2.2.2.1 b ne).1, hX4, e_I_sAI, (S3.2.2.2.2.2.2.2.1 b ne).1, (S2.2.2.2.2.2.2.2.1 b ne).1]
                      have eA6 : hAI X6 = hAI X4 := by rw [S6.2.2.2.2.1, S5.2.2.2.2.1]
                      have z2 : hAI X8 (b + 2) = va_up (hAI h (b + 2)) (bF B) (Int32.ofNat v) := by
                        rw [eAI, hX7, e_sAI, if_neg (show ¬ b + 2 = b + 3 by omega), eA6, hX4, e_sAI, if_pos rfl, A3]
                      have z3 : hAI X8 (b + 3) = va_up (hAI h (b + 3)) (bF B) (Int32.ofNat wv) := by
                        rw [eAI, hX7, e_sAI, if_pos rfl, eA6, hX4, e_sAI, if_neg (show ¬ b + 3 = b + 2 by omega), A3]
                      have z1 : hAL X8 (b + 1) = va_up (hAL h (b + 1)) (bF B) (rwd (kL t)) := by
                        rw [eAL, hX0, e_sAL, if_pos rfl, S1.2.2.2.2.2.1]
                      rw [oB']
                      refine ⟨fun hh => absurd oF' hh, fun _ => ⟨X8, go _ (fun fu => ?_), F8, P8, ?_, F8.RIB bS.2 R0.1, ?_, ?_, fun f hf2 => ?_, ⟨bS.1, Nat.le_trans bS.2 F8.1⟩, fun k hk => ?_⟩⟩
                      · rw [mX16_readField_l142, if_pos lr, if_pos le2, b_gR, if_pos (qK0 L3), b53, b_gR, if_pos j1, j3, b_gI, if_pos (qK0 L3), x16v, b_pAI, if_pos j7, j11, if_neg bd, cl, ← hX4, b_rcv, if_pos (qK0 L4), e5, o_bind, b_rcv, if_pos (qK0 L5), en2, o_bind]
                        show ((gI 17 13 X6 (some m)).bind fun x11 => _) = _
                        rw [b_gI, if_pos (qK0 L6), P6.2.2.2.1, if_pos (by rw [kd2]; exact a7), b_gI, if_pos (qK0 L6), y16, q_in, if_pos a8, o_bind, if_neg n10, b_gR, if_pos (qK0 L6), b56, b_gR, if_pos l1, l4, b_gI, if_pos (qK0 L6), y16v, b_pAI, if_pos l8, l12, if_neg bd, cl, ← hX7, b_rcv, if_pos (qK0 L7), e8, o_bind]
                      · rw [S8.2.2.1, hX7]; exact b56
                      · rw [eI, hX, e_Iself, addF_F]
                      · rw [eI, hX, e_sI, if_neg (by omega), hX0, e_I_sAL, (S1.2.2.2.2.2.2.2.1 b ne).1]; exact R0.2.2.1
                      · rw [addF_F] at hf2
                        rw [z1, z2, z3, e_up, e_up, e_up, addF_M, addF_T, addF_C]
                        by_cases q : f = bF B
                        · rw [if_pos q, if_pos q, if_pos q, if_pos q, if_pos q, if_pos q]; exact ⟨rfl, rfl, rfl⟩
                        · rw [if_neg q, if_neg q, if_neg q, if_neg q, if_neg q, if_neg q]; exact R0.2.2.2.1 f (by omega)
                      · rw [addF_N] at hk
                        obtain ⟨t', t1, t2, t3, t4⟩ := R0.2.2.2.2.2 k hk
                        have ap := RB.apart (lo := 0) R0.1 t4
                        refine ⟨t', ?_, t2, Nat.le_trans t3 F8.1, ?_⟩
                        · rw [(F8.2.1 (b + 4) (by omega)).2.2.2.1]; exact t1
                        · rw [addF_R]; exact F8.RT (by omega) t3 (by omega) t4
                    · have dg2 : dgF g n 8 (nxt g n (nxt g n (nxt g n t))) = 4 := by unfold dgF; rw [if_pos w2, if_pos a7, if_neg a8]
                      have oF' : rfF g n B t = 4 := by unfold rfF; rw [if_pos a1, if_neg a2, if_pos a3, if_pos dg, rv, if_pos a6, dg2]
                      have oT' : rfT g n B t = nxt g n (nxt g n (nxt g n (nxt g n t))) := by unfold rfT; rw [if_pos a1, if_neg a2, if_pos a3, if_pos dg, rv, if_pos a6, dt2]
                      rw [oF', oT']
                      refine ⟨fun _ => RFl.at 4 F6 P6 (go _ (fun fu => ?_)), fun hh => absurd hh n40⟩
                      rw [mX16_readField_l142, if_pos lr, if_pos le2, b_gR, if_pos (qK0 L3), b53, b_gR, if_pos j1, j3, b_gI, if_pos (qK0 L3), x16v, b_pAI, if_pos j7, j11, if_neg bd, cl, ← hX4, b_rcv, if_pos (qK0 L4), e5, o_bind, b_rcv, if_pos (qK0 L5), en2, o_bind]
                      show ((gI 17 13 X6 (some m)).bind fun x11 => _) = _
                      rw [b_gI, if_pos (qK0 L6), P6.2.2.2.1, if_pos (by rw [kd2]; exact a7), b_gI, if_pos (qK0 L6), y16, q_in, if_neg a8, o_bind, if_pos rfl, b_rcv, if_pos (qK0 L6), q_thr L6]
                  · have dg2 : dgF g n 8 (nxt g n (nxt g n (nxt g n t))) = 1 := by unfold dgF; rw [if_pos w2, if_neg a7]
                    have oF' : rfF g n B t = 1 := by unfold rfF; rw [if_pos a1, if_neg a2, if_pos a3, if_pos dg, rv, if_pos a6, dg2]
                    have oT' : rfT g n B t = nxt g n (nxt g n (nxt g n (nxt g n t))) := by unfold rfT; rw [if_pos a1, if_neg a2, if_pos a3, if_pos dg, rv, if_pos a6, dt2]
                    rw [oF', oT']
                    refine ⟨fun _ => RFl.at 1 F6 P6 (go _ (fun fu => ?_)), fun hh => absurd hh n10⟩
                    rw [mX16_readField_l142, if_pos lr, if_pos le2, b_gR, if_pos (qK0 L3), b53, b_gR, if_pos j1, j3, b_gI, if_pos (qK0 L3), x16v, b_pAI, if_pos j7, j11, if_neg bd, cl, ← hX4, b_rcv, if_pos (qK0 L4), e5, o_bind, b_rcv, if_pos (qK0 L5), en2, o_bind]
                    show ((gI 17 13 X6 (some m)).bind fun x11 => _) = _
                    rw [b_gI, if_pos (qK0 L6), P6.2.2.2.1, if_neg (by rw [kd2]; exact a7), b_rcv, if_pos (qK0 L6), q_thr L6]
              · have oF' : rfF g n B t = 5 := by unfold rfF; rw [if_pos a1, if_neg a2, if_pos a3, if_pos dg, rv, if_neg a6]
                have oT' : rfT g n B t = nxt g n (nxt g n t) := by unfold rfT; rw [if_pos a1, if_neg a2, if_pos a3, if_pos dg, rv, if_neg a6]
                rw [oF', oT']
                refine ⟨fun _ => RFl.at 5 F3 P3 (go _ (fun fu => ?_)), fun hh => absurd hh n50⟩
                rw [mX16_readField_l142, if_pos lr, if_neg (by rw [cm, show (20000 : Int32) = Int32.ofNat 20000 from rfl, le_of (by omega) (by omega)]; exact a6), b_rcv, if_pos (qK0 L3), q_thr L3]
            · have dg : dgF g n 7 (nxt g n t) = 4 := by unfold dgF; rw [if_pos w, if_pos a4, if_neg a5]
              have oF' : rfF g n B t = 4 := by unfold rfF; rw [if_pos a1, if_neg a2, if_pos a3, dg, if_neg n40]
              have oT' : rfT g n B t = nxt g n (nxt g n t) := by unfold rfT; rw [if_pos a1, if_neg a2, if_pos a3, dg, if_neg n40, dt]
              rw [oF', oT']
              refine ⟨fun _ => RFl.at 4 F3 P3 ?_, fun hh => absurd hh n40⟩
              rw [base, b_gI, if_pos (qK0 L3), P3.2.2.2.1, if_pos (by rw [kd]; exact a4), b_gI, if_pos (qK0 L3), x16, q_in, if_neg a5, o_bind, if_pos rfl, b_rcv, if_pos (qK0 L3), q_thr L3]
          · have dg : dgF g n 7 (nxt g n t) = 1 := by unfold dgF; rw [if_pos w, if_neg a4]
            have oF' : rfF g n B t = 1 := by unfold rfF; rw [if_pos a1, if_neg a2, if_pos a3, dg, if_neg n10]
            have oT' : rfT g n B t = nxt g n (nxt g n t) := by unfold rfT; rw [if_pos a1, if_neg a2, if_pos a3, dg, if_neg n10, dt]
            rw [oF', oT']
            refine ⟨fun _ => RFl.at 1 F3 P3 ?_, fun hh => absurd hh n10⟩
            rw [base, b_gI, if_pos (qK0 L3), P3.2.2.2.1, if_neg (by rw [kd]; exact a4), b_rcv, if_pos (qK0 L3), q_thr L3]
      · have oF' : rfF g n B t = 5 := by unfold rfF; rw [if_pos a1, if_neg a2, if_neg a3]
        have oT' : rfT g n B t = t := by unfold rfT; rw [if_pos a1, if_neg a2, if_neg a3]
        rw [oF', oT']
        refine ⟨fun _ => RFl.at 5 F1 P ?_, fun hh => absurd hh n50⟩
        rw [mX16_readField, b_rcv, if_pos (qK0 L0), e1, o_bind, b_rcv, if_pos (qK0 L), iN, o_bind, if_neg n10, b_gR, if_pos (qK0 L), b51, b_gL, if_pos (qK0 L), eL, b_rcv, if_pos i1, ef, o_bind, fr, if_pos rfl, b_gR, if_pos (qK0 L), b51, b_gI, if_pos i1, n0, if_pos (by rw [show bF B = 6 by omega]; rfl), b_rcv, if_pos (qK0 L), q_thr L]
  · rw [if_neg a1] at iN
    have oF' : rfF g n B t = 1 := by unfold rfF; rw [if_neg a1]
    have oT' : rfT g n B t = t := by unfold rfT; rw [if_neg a1]
    rw [oF', oT']
    refine ⟨fun _ => RFl.at 1 F1 P ?_, fun hh => absurd hh n10⟩
    rw [mX16_readField, b_rcv, if_pos (qK0 L0), e1, o_bind, b_rcv, if_pos (qK0 L), iN, o_bind, if_pos rfl, b_rcv, if_pos (qK0 L), q_thr L]

/-! reading a ONE: the reference's -/
def RFl {α : Type} (m u : Nat) (h : MHp) (F : Option ((α ⊕ Nat) × MHp)) (f : Int32) (t : Tok) : Prop := ∃ h2 : MHp, F = some (Sum.inr (m + 2), h2) ∧ FQ m u h h2 ∧ hI h2 (m + 2) 6 = f ∧ hI h2 (m + 2) 7 = Int32.ofNat (kS t)
theorem RFl.at {α : Type} {m u n : Nat} {g : Nat → Int32} {t : Tok} {h h1 : MHp} {F : Option ((α ⊕ Nat) × MHp)} (f : Int32) (Fx : FQ m u h h1) (P : PR m g n t h1) (e : F = some (Sum.inr (m + 2), sI (sI h1 (m + 2) 6 f) (m + 2) 7 (hI h1 m 14))) : RFl m u h F f t :=
  ⟨_, e, Fx.tr (FQ.stop f), by rw [e_sI, if_neg (by omega), e_Iself], by rw [e_Iself]; exact P.2.2.1⟩
theorem PR.ai {m n a : Nat} {g : Nat → Int32} {t : Tok} {h : MHp} (x : Nat → Int32) (d : a ≠ m + 3) (P : PR m g n t h) : PR m g n t (sAI h a x) := by
  obtain ⟨⟨p1, p2, p3, p4⟩, p5⟩ := P
  exact ⟨⟨p1, by rw [e_sAI, if_neg (by omega)]; exact p2, p3, p4⟩, p5⟩
theorem PR.ix {m n a j : Nat} {g : Nat → Int32} {t : Tok} {h : MHp} (v : Int32) (d : a ≠ m) (P : PR m g n t h) : PR m g n t (sI h a j v) := by
  have e : ∀ k : Nat, hI (sI h a j v) m k = hI h m k := fun k => by rw [e_sI, if_neg (fun hh => d hh.1.symm)]
  obtain ⟨⟨p1, p2, p3, p4⟩, p5, p6, p7, p8, p9, p10, p11⟩ := P
  exact ⟨⟨p1, p2, by rw [e]; exact p3, p4⟩, p5, by rw [e]; exact p6, by rw [e]; exact p7, by rw [e]; exact p8, by rw [e]; exact p9, by rw [e]; exact p10, p11⟩
/-- the ONE is counted, what follows is looked at -/
theorem q_b164 {m b u n f : Nat} {g : Nat → Int32} {B : Bk} {T : Ts} {t : Tok} {s r : Int32} {h Y : MHp} (hb : ∀ k : Nat, (g k).toInt8.toInt32 = g k) (d : m + 26 ≤ b) (d2 : b + 5 ≤ u) (F : FQ m u h Y) (P : PR m g n t Y) (k4 : kK t ≠ 4) (N : NR2 b B Y) (R : RT Y u T) (hS1 : u + 5 ≤ hS Y) (hn : tn T < 12) (c1 : hAI Y (u + 1) (tn T) = Int32.ofNat f) (c2 : hAI Y (u + 2) (tn T) = s) (c3 : r < 0 → hAI Y (u + 4) (tn T) = 1 ∧ hAI Y (u + 3) (tn T) = (-1) - r) (c4 : ¬ r < 0 → hAI Y (u + 4) (tn T) = 0 ∧ hAI Y (u + 3) (tn T) = r) (zs : ∀ j : Nat, tn T + 1 ≤ j → hAI Y (u + 4) j = 0) : ∃ h2 : MHp, FQ m u h h2 ∧ (∀ k : MHp → Nat → Option Nat → Option Nat → Int32 → Option ((Option Nat ⊕ Nat) × MHp), mX16_readTest_b164 k Y m (some b) (some u) = k h2 m (some b) (some u) (if isW (nxt g n t) 2 = true then 1 else 0)) ∧ Qt m b u g n B (addT T f s r) (if isW (nxt g n t) 2 = true then nxt g n (nxt g n t) else nxt g n t) h2 ∧ GT g n (if isW (nxt g n t) 2 = true then nxt g n (nxt g n t) else nxt g n t) := by
  have K16 : hK Y u = 16 := R.1.1
  have L := P.1.1
  obtain ⟨Z, hZ⟩ : ∃ Z : MHp, Z = sI Y u 0 (Int32.ofNat (tn T + 1)) := ⟨_, rfl⟩
  have FZ : FQ m u Y Z := by rw [hZ]; exact FQ.I 0 _ (by omega)
  have PZ : PR m g n t Z := by rw [hZ]; exact P.ix _ (by omega)
  have RZ : RT Z u (addT T f s r) := by rw [hZ]; exact R.cnt c1 c2 c3 c4
  have SZ : u + 5 ≤ hS Z := by rw [hZ]; exact hS1
  have NZ : NR2 b B Z := N.fq FZ d d2 (by omega)
  have QZ : Qt m b u g n B (addT T f s r) t Z := ⟨PZ, NZ, RZ, SZ, fun j hj => by rw [addT_n] at hj; rw [hZ]; exact zs j hj⟩
  have LZ := PZ.1.1
  obtain ⟨Z2, e2, S2, P2⟩ := PZ.st hb k4
  have G2 : GT g n (nxt g n t) := ⟨kE t, P.2.1, rfl⟩
  have Q2 := QZ.sn d d2 S2 P2
  have L2 := P2.1.1
  have iw := q_isWord P2 G2 (show 2 < 9 by omega)
  by_cases w : isW (nxt g n t) 2 = true
  · rw [if_pos w] at iw
    have k1 : kK (nxt g n t) = 1 := by
      unfold isW at w
      rw [Bool.and_eq_true, decide_eq_true_eq] at w
      exact w.1
    obtain ⟨Z3, e3, S3, P3⟩ := P2.st hb (by omega)
    rw [if_pos w, if_pos w]
    refine ⟨Z3, ((F.tr FZ).tr S2.fq).tr S3.fq, fun k => ?_, Q2.sn d d2 S3 P3, ⟨kE (nxt g n t), P2.2.1, rfl⟩⟩
    rw [mX16_readTest_b164, b_gI, if_pos K16, R.2.1, b_pI, if_pos K16, s1_of, ← hZ, b_rcv, if_pos (qK0 LZ), e2, o_bind, b_rcv, if_pos (qK0 L2), iw, o_bind, if_neg n10, b_rcv, if_pos (qK0 L2), e3, o_bind, mX16_readTest_b193]
  · rw [if_neg w] at iw
    rw [if_neg w, if_neg w]
    refine ⟨Z2, (F.tr FZ).tr S2.fq, fun k => ?_, Q2, G2⟩
    rw [mX16_readTest_b164, b_gI, if_pos K16, R.2.1, b_pI, if_pos K16, s1_of, ← hZ, b_rcv, if_pos (qK0 LZ), e2, o_bind, b_rcv, if_pos (qK0 L2), iw, o_bind, if_pos rfl, mX16_readTest_b193]
theorem thR_lt {g : Nat → Int32} {n : Nat} {B : Bk} {t : Tok} (G : GT g n t) (w6 : bF B ≤ 6) (h : thF B t = 0) : (kK t = 2 → ¬ thR B t < 0) ∧ (kK t ≠ 2 → thR B t < 0 ∧ (-1) - thR B t = Int32.ofNat (fN B (kL t))) := by
  constructor
  · intro e
    obtain ⟨v, hv, ev⟩ := tk_n G e
    unfold thR
    rw [if_pos e, ev]
    exact nlt0 (by omega)
  · intro e
    unfold thF at h
    rw [if_neg e] at h
    have fl := (kf_0 h).2
    unfold thR
    rw [if_neg e]
    refine ⟨?_, m1_of _⟩
    apply Int32.not_le.mp
    exact okR_n w6 fl
theorem RT.put {u k : Nat} {v : Int32} {T : Ts} {h : MHp} (R : RT h u T) : RT (sAI h (u + k) (va_up (hAI h (u + k)) (tn T) v)) u T := by
  obtain ⟨i, r2, r3⟩ := R
  refine ⟨i, r2, fun j hj => ?_⟩
  have key : ∀ x : Nat, hAI (sAI h (u + k) (va_up (hAI h (u + k)) (tn T) v)) (u + x) j = hAI h (u + x) j := fun x => by
    rw [e_sAI]
    by_cases e : u + x = u + k
    · rw [if_pos e, e_up, if_neg (by omega), ← e]
    · rw [if_neg e]
  rw [key 1, key 2, key 3, key 4]
  exact r3 j hj
theorem q_readOne {m b u n : Nat} {g : Nat → Int32} {B : Bk} {T : Ts} {t : Tok} {h : MHp} (hb : ∀ k : Nat, (g k).toInt8.toInt32 = g k) (d : m + 26 ≤ b) (d2 : b + 5 ≤ u) (W : NW B) (WT0 : WT (bF B) T) (G : GT g n t) (Q : Qt m b u g n B T t h) (fu : Nat) : (oF g n B T t ≠ 0 → RFl m u h (mX16_readTest_l10 (fu + 1) h m (some b) (some u) 1) (oF g n B T t) (oT g n B T t)) ∧ (oF g n B T t = 0 → ∃ h2 : MHp, FQ m u h h2 ∧ mX16_readTest_l10 (fu + 1) h m (some b) (some u) 1 = mX16_readTest_l10 fu h2 m (some b) (some u) (if isW (nxt g n (oT g n B T t)) 2 = true then 1 else 0) ∧ Qt m b u g n B (oN g n B T t) (if isW (nxt g n (oT g n B T t)) 2 = true then nxt g n (nxt g n (oT g n B T t)) else nxt g n (oT g n B T t)) h2 ∧ GT g n (if isW (nxt g n (oT g n B T t)) 2 = true then nxt g n (nxt g n (oT g n B T t)) else nxt g n (oT g n B T t))) := by
  have w6 := W.1
  have w12 := WT0.1
  obtain ⟨P, N, R, SS, zs⟩ := id Q
  have L := P.1.1
  obtain ⟨⟨i1, i2, i3, i4, i5, i6, i7, i8, i9, i10, i11, i12, i13⟩, r2, r3⟩ := id R
  have ek := q_known P G N W
  by_cases a1 : kf B t = 0
  · rw [if_pos a1] at ek
    obtain ⟨iN, fl⟩ := kf_0 a1
    have k1 := isN_1 iN
    by_cases a2 : tn T < 12
    · have bd := bad_n (k := tn T) (n := 12) (by omega) (by omega)
      have cl : (Int32.ofNat (tn T)).toNatClampNeg = tn T := cl_of (by omega)
      have n12 : ¬ Int32.ofNat (tn T) = 12 := by rw [show (12 : Int32) = Int32.ofNat 12 from rfl, eq_of (by omega) (by omega)]; omega
      obtain ⟨X1, hX1⟩ : ∃ X : MHp, X = sAI h (u + 1) (va_up (hAI h (u + 1)) (tn T) (Int32.ofNat (fN B (kL t)))) := ⟨_, rfl⟩
      have Q1 : Qt m b u g n B T t X1 := by rw [hX1]; exact Q.put _ d d2 (Or.inl rfl)
      have F1 : FQ m u h X1 := by rw [hX1]; exact FQ.AI 1 _ (by omega)
      have L1 := Q1.1.1.1
      obtain ⟨X2, e2, S2, P2⟩ := Q1.1.st hb (show kK t ≠ 4 by omega)
      have Q2 := Q1.sn d d2 S2 P2
      have L2 := P2.1.1
      have G2 : GT g n (nxt g n t) := ⟨kE t, P.2.1, rfl⟩
      have base : mX16_readTest_l10 (fu + 1) h m (some b) (some u) 1 = if sg3 (nxt g n t) = true then mX16_readTest_b84 (mX16_readTest_l10 fu) X2 m (some b) (some u) else some (Sum.inr (m + 2), sI (sI X2 (m + 2) 6 1) (m + 2) 7 (hI X2 m 14)) := by
        rw [mX16_readTest_l10, if_neg n10, b_rcv, if_pos (qK0 L), ek, o_bind]
        show ((gI 16 0 h (some u)).bind fun x42 => _) = _
        rw [b_gI, if_pos i1, r2, if_neg n12, b_gR, if_pos i1, i2, b_gI, if_pos i1, r2, b_pAI, if_pos i6, i10, if_neg bd, cl, ← hX1, b_rcv, if_pos (qK0 L1), e2, o_bind, b_rcv, if_pos (qK0 L2), q_is P2 G2, o_bind, b_rcv, if_pos (qK0 L2), q_is P2 G2, o_bind, b_rcv, if_pos (qK0 L2), q_is P2 G2, o_bind, b_rcv, if_pos (qK0 L2), q_thr L2, ite01, ite01, ite01]
        unfold sg3
        by_cases q : kK (nxt g n t) = 3
        · rw [decide_eq_true q, Bool.true_and]
          by_cases q1 : kV (nxt g n t) = 61
          · rw [if_pos ⟨q, q1⟩, if_pos (by rw [decide_eq_true q1]; rfl)]
          · rw [if_neg (fun hh : kK (nxt g n t) = 3 ∧ kV (nxt g n t) = 61 => q1 hh.2)]
            by_cases q2 : kV (nxt g n t) = 60
            · rw [if_pos ⟨q, q2⟩, if_pos (by rw [decide_eq_true q2, Bool.true_or, Bool.or_true])]
            · rw [if_neg (fun hh : kK (nxt g n t) = 3 ∧ kV (nxt g n t) = 60 => q2 hh.2)]
              by_cases q3 : kV (nxt g n t) = 62
              · rw [if_pos ⟨q, q3⟩, if_pos (by rw [decide_eq_true q3, Bool.or_true, Bool.or_true])]
              · rw [if_neg (fun hh : kK (nxt g n t) = 3 ∧ kV (nxt g n t) = 62 => q3 hh.2), if_neg (by rw [decide_eq_false q1, decide_eq_false q2, decide_eq_false q3]; decide)]
        · rw [if_neg (fun hh : kK (nxt g n t) = 3 ∧ kV (nxt g n t) = 61 => q hh.1), if_neg (fun hh : kK (nxt g n t) = 3 ∧ kV (nxt g n t) = 60 => q hh.1), if_neg (fun hh : kK (nxt g n t) = 3 ∧ kV (nxt g n t) = 62 => q hh.1), if_neg (by rw [decide_eq_false q, Bool.false_and]; decide)]
      have F2 := F1.tr (S2.fq (u := u))
      by_cases a3 : sg3 (nxt g n t) = true
      · rw [if_pos a3] at base
        have k3 := sg3_4 a3
        have oFe : oF g n B T t = thF B (nxt g n (nxt g n t)) := by unfold oF; rw [if_pos a1, if_pos a2, if_pos a3]
        have oTe : oT g n B T t = nxt g n (nxt g n t) := by unfold oT; rw [if_pos a1, if_pos a2, if_pos a3]
        rw [oFe, oTe]
        obtain ⟨X3, hX3⟩ : ∃ X : MHp, X = sAI X2 (u + 2) (va_up (hAI X2 (u + 2)) (tn T) (kV (nxt g n t))) := ⟨_, rfl⟩
        have Q3 : Qt m b u g n B T (nxt g n t) X3 := by rw [hX3]; exact Q2.put _ d d2 (Or.inr (Or.inl rfl))
        have F3 := F2.tr (show FQ m u X2 X3 by rw [hX3]; exact FQ.AI 2 _ (by omega))
        obtain ⟨X4, e4, S4, P4⟩ := Q3.1.st hb (show kK (nxt g n t) ≠ 4 by omega)
        have Q4 := Q3.sn d d2 S4 P4
        have F4' := F3.tr (S4.fq (u := u))
        have L3 := Q3.1.1.1
        have L4 := P4.1.1
        have G4 : GT g n (nxt g n (nxt g n t)) := ⟨kE (nxt g n t), P2.2.1, rfl⟩
        have k5 := kK_5 G4
        obtain ⟨⟨j1, j2, j3, j4, j5, j6, j7, j8, j9, j10, j11, j12, j13⟩, s2, s3⟩ := id Q2.2.2.1
        obtain ⟨⟨l1, l2, l3, l4, l5, l6, l7, l8, l9, l10, l11, l12, l13⟩, t2, t3⟩ := id Q4.2.2.1
        have x15 : hI X2 m 15 = kV (nxt g n t) := P2.2.2.2.2.2.1 k3
        have ca : hAI X4 = hAI X3 := S4.2.2.2.2.1
        have cb : hAI X2 = hAI X1 := S2.2.2.2.2.1
        have c1 : hAI X4 (u + 1) (tn T) = Int32.ofNat (fN B (kL t)) := by rw [ca, hX3, e_sAI, if_neg (by omega), cb, hX1, e_sAI, if_pos rfl, e_up, if_pos rfl]
        have c2 : hAI X4 (u + 2) (tn T) = kV (nxt g n t) := by rw [ca, hX3, e_sAI, if_pos rfl, e_up, if_pos rfl]
        have tl1 := fun hz : thF B (nxt g n (nxt g n t)) = 0 => thR_lt G4 w6 hz
        have kd : (rcd (kK (nxt g n (nxt g n t))) = 3) = (kK (nxt g n (nxt g n t)) = 2) := rcd_2 k5
        have zs4 := Q4.2.2.2.2
        by_cases q : kK (nxt g n (nxt g n t)) = 2
        · have x16 : hI X4 m 16 = kV (nxt g n (nxt g n t)) := P4.2.2.2.2.2.2.1 q
          obtain ⟨X5, hX5⟩ : ∃ X : MHp, X = sAI X4 (u + 3) (va_up (hAI X4 (u + 3)) (tn T) (kV (nxt g n (nxt g n t)))) := ⟨_, rfl⟩
          have b84 : mX16_readTest_b84 (mX16_readTest_l10 fu) X2 m (some b) (some u) = if kV (nxt g n (nxt g n t)) ≤ 99 then mX16_readTest_b164 (mX16_readTest_l10 fu) X5 m (some b) (some u) else some (Sum.inr (m + 2), sI (sI X4 (m + 2) 6 4) (m + 2) 7 (hI X4 m 14)) := by
            rw [mX16_readTest_b84, b_gR, if_pos j1, j3, b_gI, if_pos j1, s2, b_gI, if_pos (qK0 L2), x15, b_pAI, if_pos j7, j11, if_neg bd, cl, ← hX3, b_rcv, if_pos (qK0 L3), e4, o_bind, b_gI, if_pos (qK0 L4), P4.2.2.2.1, if_pos (by rw [kd]; exact q), b_gI, if_pos (qK0 L4), x16]
            by_cases q2 : kV (nxt g n (nxt g n t)) ≤ 99
            · rw [if_pos q2, if_pos q2, b_gR, if_pos l1, l4, b_gI, if_pos l1, t2, b_gI, if_pos (qK0 L4), x16, b_pAI, if_pos l8, l12, if_neg bd, cl, ← hX5]
            · rw [if_neg q2, if_neg q2, b_rcv, if_pos (qK0 L4), q_thr L4]
          have tF0 : thF B (nxt g n (nxt g n t)) = if kV (nxt g n (nxt g n t)) ≤ 99 then 0 else 4 := by unfold thF; rw [if_pos q]
          by_cases q2 : kV (nxt g n (nxt g n t)) ≤ 99
          · rw [if_pos q2] at b84 tF0
            refine ⟨fun hh => absurd tF0 hh, fun _ => ?_⟩
            have Q5 : Qt m b u g n B T (nxt g n (nxt g n t)) X5 := by rw [hX5]; exact Q4.put _ d d2 (Or.inr (Or.inr rfl))
            have F5 := F4'.tr (show FQ m u X4 X5 by rw [hX5]; exact FQ.AI 3 _ (by omega))
            have eR : thR B (nxt g n (nxt g n t)) = kV (nxt g n (nxt g n t)) := by unfold thR; rw [if_pos q]
            obtain ⟨h6, F6, e6, Q6, G6⟩ := q_b164 (f := fN B (kL t)) (s := kV (nxt g n t)) (r := thR B (nxt g n (nxt g n t))) hb d d2 F5 Q5.1 (thF_4 tF0) Q5.2.1 Q5.2.2.1 Q5.2.2.2.1 a2 (by rw [hX5, e_sAI, if_neg (by omega)]; exact c1) (by rw [hX5, e_sAI, if_neg (by omega)]; exact c2) (fun hlt => absurd hlt ((tl1 tF0).1 q)) (fun _ => ⟨Q5.2.2.2.2 _ (Nat.le_refl _), by rw [hX5, e_sAI, if_pos rfl, e_up, if_pos rfl, eR]⟩) (fun j hj => Q5.2.2.2.2 j (by omega))
            exact ⟨h6, F6, by rw [base, b84, e6], Q6, G6⟩
          · rw [if_neg q2] at b84 tF0
            rw [tF0]
            exact ⟨fun _ => RFl.at 4 F4' P4 (by rw [base, b84]), fun hh => absurd hh n40⟩
        · have ek2 := q_known P4 G4 Q4.2.1 W
          obtain ⟨X5, hX5⟩ : ∃ X : MHp, X = sAI X4 (u + 3) (va_up (hAI X4 (u + 3)) (tn T) (Int32.ofNat (fN B (kL (nxt g n (nxt g n t)))))) := ⟨_, rfl⟩
          obtain ⟨X6, hX6⟩ : ∃ X : MHp, X = sAI X5 (u + 4) (va_up (hAI X5 (u + 4)) (tn T) 1) := ⟨_, rfl⟩
          have Q5 : Qt m b u g n B T (nxt g n (nxt g n t)) X5 := by rw [hX5]; exact Q4.put _ d d2 (Or.inr (Or.inr rfl))
          obtain ⟨⟨v1, v2, v3, v4, v5, v6, v7, v8, v9, v10, v11, v12, v13⟩, w2, w3⟩ := id Q5.2.2.1
          have b84 : mX16_readTest_b84 (mX16_readTest_l10 fu) X2 m (some b) (some u) = if kf B (nxt g n (nxt g n t)) = 0 then mX16_readTest_b164 (mX16_readTest_l10 fu) X6 m (some b) (some u) else some (Sum.inr (m + 2), sI (sI X4 (m + 2) 6 (kf B (nxt g n (nxt g n t)))) (m + 2) 7 (hI X4 m 14)) := by
            rw [mX16_readTest_b84, b_gR, if_pos j1, j3, b_gI, if_pos j1, s2, b_gI, if_pos (qK0 L2), x15, b_pAI, if_pos j7, j11, if_neg bd, cl, ← hX3, b_rcv, if_pos (qK0 L3), e4, o_bind, b_gI, if_pos (qK0 L4), P4.2.2.2.1, if_neg (by rw [kd]; exact q), b_gR, if_pos l1, l4, b_gI, if_pos l1, t2, b_rcv, if_pos (qK0 L4), ek2]
            by_cases q2 : kf B (nxt g n (nxt g n t)) = 0
            · rw [if_pos q2, if_pos q2, o_bind]
              show ((pAI 20 X4 (some (u + 3)) (Int32.ofNat (tn T)) (Int32.ofNat (fN B (kL (nxt g n (nxt g n t)))))).bind fun h23 => _) = _
              rw [b_pAI, if_pos l8, l12, if_neg bd, cl, ← hX5, b_gR, if_pos v1, v5, b_gI, if_pos v1, w2, b_pAI, if_pos v9, v13, if_neg bd, cl, ← hX6]
            · rw [if_neg q2, if_neg q2, o_bind]
          have tF0 : thF B (nxt g n (nxt g n t)) = kf B (nxt g n (nxt g n t)) := by unfold thF; rw [if_neg q]
          by_cases q2 : kf B (nxt g n (nxt g n t)) = 0
          · rw [if_pos q2] at b84
            refine ⟨fun hh => absurd (tF0.trans q2) hh, fun hz => ?_⟩
            have F5 := F4'.tr (show FQ m u X4 X5 by rw [hX5]; exact FQ.AI 3 _ (by omega))
            have F56 : FQ m u X5 X6 := by rw [hX6]; exact FQ.AI 4 _ (by omega)
            have P6 : PR m g n (nxt g n (nxt g n t)) X6 := by rw [hX6]; exact Q5.1.ai _ (by omega)
            have N6 : NR2 b B X6 := Q5.2.1.fq F56 d d2 (by have := Q5.2.2.2.1; omega)
            have R6 : RT X6 u T := by rw [hX6]; exact Q5.2.2.1.put
            have S6 : u + 5 ≤ hS X6 := by rw [hX6]; exact Q5.2.2.2.1
            obtain ⟨g1, g2⟩ := (tl1 hz).2 q
            obtain ⟨h7, F7, e7, Q7, G7⟩ := q_b164 (f := fN B (kL t)) (s := kV (nxt g n t)) (r := thR B (nxt g n (nxt g n t))) hb d d2 (F5.tr F56) P6 (thF_4 hz) N6 R6 S6 a2 (by rw [hX6, e_sAI, if_neg (by omega), hX5, e_sAI, if_neg (by omega)]; exact c1) (by rw [hX6, e_sAI, if_neg (by omega), hX5, e_sAI, if_neg (by omega)]; exact c2) (fun _ => ⟨by rw [hX6, e_sAI, if_pos rfl, e_up, if_pos rfl], by rw [hX6, e_sAI, if_neg (by omega), hX5, e_sAI, if_pos rfl, e_up, if_pos rfl, g2]⟩) (fun hlt => absurd g1 hlt) (fun j hj => by rw [hX6, e_sAI, if_pos rfl, e_up, if_neg (by omega)]; exact Q5.2.2.2.2 j (by omega))
            exact ⟨h7, F7, by rw [base, b84, e7], Q7, G7⟩
          · rw [if_neg q2] at b84
            rw [tF0]
            exact ⟨fun _ => RFl.at _ F4' P4 (by rw [base, b84]), fun hh => absurd hh q2⟩
      · rw [if_neg a3] at base
        have oFe : oF g n B T t = 1 := by unfold oF; rw [if_pos a1, if_pos a2, if_neg a3]
        have oTe : oT g n B T t = nxt g n t := by unfold oT; rw [if_pos a1, if_pos a2, if_neg a3]
        rw [oFe, oTe]
        exact ⟨fun _ => RFl.at 1 F2 P2 base, fun hh => absurd hh n10⟩
    · have oFe : oF g n B T t = 5 := by unfold oF; rw [if_pos a1, if_neg a2]
      have oTe : oT g n B T t = t := by unfold oT; rw [if_pos a1, if_neg a2]
      rw [oFe, oTe]
      refine ⟨fun _ => RFl.at 5 FQ.rf P ?_, fun hh => absurd hh n50⟩
      rw [mX16_readTest_l10, if_neg n10, b_rcv, if_pos (qK0 L), ek, o_bind]
      show ((gI 16 0 h (some u)).bind fun x42 => _) = _
      rw [b_gI, if_pos i1, r2, if_pos (by rw [show tn T = 12 by omega]; rfl), b_rcv, if_pos (qK0 L), q_thr L]
  · rw [if_neg a1] at ek
    have oFe : oF g n B T t = kf B t := by unfold oF; rw [if_neg a1]
    have oTe : oT g n B T t = t := by unfold oT; rw [if_neg a1]
    rw [oFe, oTe]
    refine ⟨fun _ => RFl.at _ FQ.rf P ?_, fun hh => absurd hh a1⟩
    rw [mX16_readTest_l10, if_neg n10, b_rcv, if_pos (qK0 L), ek, o_bind]

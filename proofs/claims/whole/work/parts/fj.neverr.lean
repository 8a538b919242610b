/-! reading a rule: the reference's -/
/-- what reading a line changes: the book's own cells too -/
def FR (m u : Nat) (h h' : MHp) : Prop := hS h ≤ hS h' ∧ (∀ a : Nat, a < hS h → hK h' a = hK h a ∧ hN h' a = hN h a ∧ hR h' a = hR h a ∧ (a < u ∨ u + 5 ≤ a → hAR h' a = hAR h a ∧ hAI h' a = hAI h a ∧ hAL h' a = hAL h a ∧ (a ≠ m → a ≠ m + 2 → hI h' a = hI h a ∧ hL h' a = hL h a))) ∧ ∀ j : Nat, ¬ (12 ≤ j ∧ j ≤ 16) → hI h' m j = hI h m j
theorem FR.tr {m u : Nat} {h h1 h2 : MHp} (A : FR m u h h1) (B : FR m u h1 h2) : FR m u h h2 := by
  refine ⟨Nat.le_trans A.1 B.1, fun a ha => ?_, fun j hj => (B.2.2 j hj).trans (A.2.2 j hj)⟩
  obtain ⟨x1, x2, x3, x5⟩ := A.2.1 a ha
  obtain ⟨y1, y2, y3, y5⟩ := B.2.1 a (Nat.lt_of_lt_of_le ha A.1)
  refine ⟨y1.trans x1, y2.trans x2, y3.trans x3, fun hu => ?_⟩
  obtain ⟨p0, p1, p2, p3⟩ := x5 hu
  obtain ⟨q0, q1, q2, q3⟩ := y5 hu
  exact ⟨q0.trans p0, q1.trans p1, q2.trans p2, fun h1 h2 => ⟨(q3 h1 h2).1.trans (p3 h1 h2).1, (q3 h1 h2).2.trans (p3 h1 h2).2⟩⟩
theorem FQ.fr {m u : Nat} {h h' : MHp} (F : FQ m u h h') : FR m u h h' :=
  ⟨F.1, fun a ha => by
    obtain ⟨x1, x2, x3, x4, x5⟩ := F.2.1 a ha
    exact ⟨x1, x2, x3, fun hu => ⟨x4, (x5 hu).1, (x5 hu).2.1, (x5 hu).2.2⟩⟩, F.2.2⟩
theorem FR.AR {m u : Nat} {h : MHp} (k : Nat) (g : Nat → Option Nat) (hk : k < 5) : FR m u h (sAR h (u + k) g) :=
  ⟨Nat.le_refl _, fun a _ => ⟨rfl, rfl, rfl, fun hu => ⟨by rw [e_sAR, if_neg (by omega)], rfl, rfl, fun _ _ => ⟨rfl, rfl⟩⟩⟩, fun _ _ => rfl⟩
theorem b_pAR {β : Type} (h : MHp) (a u : Nat) (i : Int32) (f : MHp → Option β) (k1 : hK h a = 27) (k2 : hK h u = 16) (bd : ¬ bad i (hN h a) = true) : (pAR 27 16 h (some a) i (some u)).bind f = f (sAR h a (va_up (hAR h a) i.toNatClampNeg (some u))) := by
  unfold pAR
  rw [b_inA, if_pos k1, if_neg bd, e_rcv, if_pos k2, o_map, o_bind]
theorem q_readNever {m b n : Nat} {g : Nat → Int32} {B : Bk} {t : Tok} {h : MHp} (hb : ∀ k : Nat, (g k).toInt8.toInt32 = g k) (W : WBk B) (G : GT g n t) (k0 : kK t = 1) (Q : Qb m b g n B t h) : (nvF g n B t ≠ 0 → RFl m b h (mX16_readNever h m) (nvF g n B t) (nvT g n B t)) ∧ (nvF g n B t = 0 → ∃ h2 : MHp, mX16_readNever h m = some (Sum.inl (), h2) ∧ FR m b h h2 ∧ Qb m b g n (addN B (tstR g n B (nxt g n t)).2.2) (tstR g n B (nxt g n t)).2.1 h2) := by
  have w12 := W.1.2.1
  obtain ⟨P, b5, R⟩ := id Q
  have bS := R.2.2.2.2.1
  have L := P.1.1
  have n1 := R.2.2.1
  by_cases a1 : bN B < 12
  · have eF : nvF g n B t = (tstR g n B (nxt g n t)).1 := by unfold nvF; rw [if_pos a1]
    have eT : nvT g n B t = (tstR g n B (nxt g n t)).2.1 := by unfold nvT; rw [if_pos a1]
    rw [eF, eT]
    have n12 : ¬ Int32.ofNat (bN B) = 12 := by rw [show (12 : Int32) = Int32.ofNat 12 from rfl, eq_of (by omega) (by omega)]; omega
    have bd := bad_n (k := bN B) (n := 12) a1 (by omega)
    have cl : (Int32.ofNat (bN B)).toNatClampNeg = bN B := cl_of (by omega)
    obtain ⟨h1, e1, S1, P1⟩ := P.st hb (by omega)
    have G1 : GT g n (nxt g n t) := G.nx
    have L1 := P1.1.1
    have F1 : FQ m b h h1 := S1.fq
    have hS1 : hS h1 = hS h := S1.2.2.2.2.2.2.1
    have I1 : RIB h1 b := F1.RIB bS.2 R.1
    have b51 : hR h1 m 5 = some b := by rw [S1.2.2.1]; exact b5
    have ib := (S1.2.2.2.2.2.2.2.1 b (by omega)).1
    have N1 : NR2 b B h1 := ⟨I1, by rw [ib]; exact R.2.1, fun f hf => by rw [S1.2.2.2.2.2.1]; exact (R.2.2.2.1 f hf).1⟩
    obtain ⟨i1, i2, i3, i4, i5, i6, i7, i8, i9, i10, i11, i12, i13⟩ := id I1
    obtain ⟨r1, r2⟩ := q_readTest hb bS.1 (by rw [hS1]; exact bS.2) W.nw G1 P1 N1
    -- the search for a test leaves the book alone
    have low : ∀ h2 : MHp, FQ m (hS h1) h1 h2 → FQ m b h1 h2 := fun h2 F => ⟨F.1, fun a ha => by
      obtain ⟨x1, x2, x3, x4, x5⟩ := F.2.1 a ha
      exact ⟨x1, x2, x3, x4, fun _ => x5 (Or.inl ha)⟩, F.2.2⟩
    have pre : ∀ f : Option ((Option Nat ⊕ Nat) × MHp) , mX16_readTest h1 m (some b) = f → mX16_readNever h m = f.bind fun r10 => (match r10 with
      | (Sum.inl x13, h12) => (pAR 27 16 h12 (some (b + 4)) (Int32.ofNat (bN B)) x13).bind fun h14 => (gR 17 5 h14 (some m)).bind fun x15 => (gI 13 1 h14 x15).bind fun x16 => (pI 13 1 h14 x15 (x16 + 1)).bind fun h17 => some (Sum.inl (), h17)
      | (Sum.inr q18, h12) => some (Sum.inr q18, h12)) := fun f ef => by
      rw [mX16_readNever, b_gR, if_pos (qK0 L), b5, b_gI, if_pos R.1.1, n1, if_neg n12, b_rcv, if_pos (qK0 L), e1, o_bind, b_gR, if_pos (qK0 L1), b51, b_gR, if_pos i1, i5, b_gR, if_pos (qK0 L1), b51, b_gI, if_pos i1, ib, n1, b_gR, if_pos (qK0 L1), b51, b_rcv, if_pos (qK0 L1), ef]
      rfl
    refine ⟨fun hh => ?_, fun hh => ?_⟩
    · obtain ⟨h2, e2, F2, f2, x2⟩ := r1 hh
      exact ⟨h2, by rw [pre _ e2, o_bind], F1.tr (low h2 F2), f2, x2⟩
    · obtain ⟨h2, e2, F2, Q2⟩ := r2 hh
      obtain ⟨P2, N2, R2, S2, -⟩ := Q2
      have F12 := low h2 F2
      have I2 : RIB h2 b := F12.RIB (by rw [hS1]; exact bS.2) I1
      have ib2 : hI h2 b = hI h b := by rw [((F2.2.1 b (by omega)).2.2.2.2 (Or.inl (by omega))).2.2 (by omega) (by omega) |>.1, ib]
      have b52 : hR h2 m 5 = some b := by rw [(F2.2.1 m (by omega)).2.2.1]; exact b51
      obtain ⟨l1, l2, l3, l4, l5, l6, l7, l8, l9, l10, l11, l12, l13⟩ := id I2
      obtain ⟨Y, hY⟩ : ∃ Y : MHp, Y = sAR h2 (b + 4) (va_up (hAR h2 (b + 4)) (bN B) (some (hS h1))) := ⟨_, rfl⟩
      obtain ⟨Z, hZ⟩ : ∃ Z : MHp, Z = sI Y b 1 (Int32.ofNat (bN B + 1)) := ⟨_, rfl⟩
      have FY : FR m b h2 Y := by rw [hY]; exact FR.AR 4 _ (by omega)
      have FZ : FQ m b Y Z := by rw [hZ]; exact FQ.I 1 _ (by omega)
      have L2 := P2.1.1
      have LY : QL m Y := by rw [hY]; exact L2
      have KY : hK Y b = 13 := by rw [hY]; exact l1
      have b5Y : hR Y m 5 = some b := by rw [hY]; exact b52
      have iY : hI Y b = hI h b := by rw [hY]; exact ib2
      have PY : PR m g n (tstR g n B (nxt g n t)).2.1 Y := by rw [hY]; exact P2
      have PZ : PR m g n (tstR g n B (nxt g n t)).2.1 Z := by rw [hZ]; exact PY.ix _ (by omega)
      have AI2 : ∀ a : Nat, a < hS h1 → hAI h2 a = hAI h1 a ∧ hAL h2 a = hAL h1 a ∧ hAR h2 a = hAR h1 a := fun a ha => by
        obtain ⟨x1, x2, x3, x4, x5⟩ := F2.2.1 a ha
        exact ⟨(x5 (Or.inl ha)).1, (x5 (Or.inl ha)).2.1, x4⟩
      have bS1 : b + 5 ≤ hS h1 := by rw [hS1]; exact bS.2
      have RTof : ∀ (t' : Nat) (T : Ts), RT h2 t' T → (t' + 5 ≤ b ∨ b + 5 ≤ t') → RT Z t' T := fun t' T R0 dj => by
        refine RT.ag (fun a x y => ?_) R0
        rw [hZ, hY]
        refine ⟨rfl, rfl, ?_, rfl, rfl, rfl, rfl, ?_⟩
        · funext i; rw [e_sI, if_neg (fun e => by have := e.1; omega)]; rfl
        · show hAR (sAR h2 (b + 4) _) a = _
          rw [e_sAR, if_neg (by omega)]
      refine ⟨Z, ?_, ((F1.tr F12).fr.tr FY).tr FZ.fr, PZ, by rw [hZ]; exact b5Y, ?_, ?_, ?_, fun f hf => ?_, ⟨bS.1, ?_⟩, fun k hk => ?_⟩
      · rw [pre _ e2, o_bind]
        show ((pAR 27 16 h2 (some (b + 4)) (Int32.ofNat (bN B)) (some (hS h1))).bind fun h14 => _) = _
        rw [b_pAR _ _ _ _ _ l9 R2.1.1 (by rw [l13]; exact bd), cl, ← hY, b_gR, if_pos (qK0 LY), b5Y, b_gI, if_pos KY, iY, n1, b_pI, if_pos KY, s1_of, ← hZ]
      · rw [hZ, hY]; exact I2
      · rw [hZ, e_sI, if_neg (by omega), iY, addN_F]; exact R.2.1
      · rw [hZ, e_Iself, addN_N]
      · rw [hZ, hY]
        show hAL h2 (b + 1) f = rwd (bM B f) ∧ hAI h2 (b + 2) f = Int32.ofNat (bT B f) ∧ hAI h2 (b + 3) f = Int32.ofNat (bC B f)
        rw [(AI2 (b + 1) (by omega)).2.1, (AI2 (b + 2) (by omega)).1, (AI2 (b + 3) (by omega)).1, S1.2.2.2.2.2.1, S1.2.2.2.2.1]
        exact R.2.2.2.1 f hf
      · have hz : hS Z = hS h2 := by rw [hZ, hY]; rfl
        rw [hz]; exact Nat.le_trans bS1 F2.1
      · have hz : hS Z = hS h2 := by rw [hZ, hY]; rfl
        rw [addN_N] at hk
        have ar : hAR Z (b + 4) k = if k = bN B then some (hS h1) else hAR h2 (b + 4) k := by
          rw [hZ, hY]
          show hAR (sAR h2 (b + 4) (va_up (hAR h2 (b + 4)) (bN B) (some (hS h1)))) (b + 4) k = _
          rw [e_sAR, if_pos rfl, e_up]
        rw [ar, addN_R]
        by_cases q : k = bN B
        · rw [if_pos q, if_pos q]
          exact ⟨hS h1, rfl, by omega, by rw [hz]; exact S2, RTof _ _ R2 (Or.inr bS1)⟩
        · rw [if_neg q, if_neg q]
          obtain ⟨t', t1, t2, t3, t4⟩ := R.2.2.2.2.2 k (by omega)
          have ap := RB.apart (lo := 0) R.1 t4
          refine ⟨t', ?_, t2, by rw [hz]; exact Nat.le_trans (by rw [hS1]; exact t3) F2.1, RTof _ _ (F12.RT (by omega) (by rw [hS1]; exact t3) ap (F1.RT (by omega) t3 ap t4)) ap⟩
          rw [(AI2 (b + 4) (by omega)).2.2, S1.2.2.2.1]
          exact t1
  · have eF : nvF g n B t = 5 := by unfold nvF; rw [if_neg a1]
    have eT : nvT g n B t = t := by unfold nvT; rw [if_neg a1]
    rw [eF, eT]
    refine ⟨fun _ => RFl.at 5 FQ.rf P ?_, fun hh => absurd hh n50⟩
    rw [mX16_readNever, b_gR, if_pos (qK0 L), b5, b_gI, if_pos R.1.1, n1, if_pos (by rw [show bN B = 12 by omega]; rfl), b_rcv, if_pos (qK0 L), q_thr L]

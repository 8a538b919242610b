/-! known names, and how a reading fails on both sides -/
def NW (B : Bk) : Prop := bF B ≤ 6 ∧ ∀ f : Nat, f < bF B → WL (bM B f)
def NB (c bo : Nat) (B : Bk) (h : MHp) : Prop := hR h (c + 55) 8 = some bo ∧ IsB h bo ∧ hI h bo 4 = Int32.ofNat (bF B) ∧ ∀ f : Nat, f < bF B → hAL h (bo + 1) f = cwd (bM B f)
def NR2 (b : Nat) (B : Bk) (h : MHp) : Prop := RIB h b ∧ hI h b 0 = Int32.ofNat (bF B) ∧ ∀ f : Nat, f < bF B → hAL h (b + 1) f = rwd (bM B f)
def kf (B : Bk) (t : Tok) : Int32 := if isN t = true then (if fN B (kL t) < bF B then 0 else 2) else 1
theorem isN_1 {t : Tok} (h : isN t = true) : kK t = 1 := by
  unfold isN at h
  rw [Bool.and_eq_true, decide_eq_true_eq] at h
  exact h.1
theorem fN_le (B : Bk) (l : List Nat) : fN B l ≤ bF B := by
  have := (lsf_le (fun f => decide (bM B f = l)) (bF B) 0).2
  unfold fN
  omega
theorem p_known {c bo n : Nat} {g : Nat → Int32} {B : Bk} {t : Tok} {h : MHp} (P : PC c g n t h) (G : GT g n t) (N : NB c bo B h) (W : NW B) : mX8_knownField h (c + 55) = if kf B t = 0 then some (Int32.ofNat (fN B (kL t)), h) else some (-1, sI h (c + 55) 1 (kf B t)) := by
  have K := lK55 P.1.1
  have w6 := W.1
  obtain ⟨n1, n2, n3, n4⟩ := N
  by_cases e : isN t = true
  · have k1 := isN_1 e
    have ef := p_fieldNamed n2 n3 w6 n4 W.2 (tk_w G k1).1
    have le := fN_le B (kL t)
    rw [mX8_knownField, b_rcv, if_pos K, p_isName P G, if_pos e, o_bind, if_neg n10, b_gR, if_pos K, n1, b_gL, if_pos K, P.w G k1, b_rcv, if_pos n2.1, ef, o_bind]
    unfold kf fR
    rw [if_pos e]
    by_cases q : fN B (kL t) < bF B
    · rw [if_pos q, if_pos q, if_neg (nm_of (by omega)), if_pos rfl]
    · rw [if_neg q, if_neg q, if_pos rfl, b_rcv, if_pos K, mX8_fail, b_pI, if_pos K, o_bind, if_neg n20]
  · rw [mX8_knownField, b_rcv, if_pos K, p_isName P G, if_neg e, o_bind, if_pos rfl, b_rcv, if_pos K, mX8_fail, b_pI, if_pos K, o_bind]
    unfold kf
    rw [if_neg e, if_neg n10]
theorem q_stop {m : Nat} {h : MHp} (L : QL m h) (f : Int32) : mX16_stop h m f = some (some (m + 2), sI (sI h (m + 2) 6 f) (m + 2) 7 (hI h m 14)) := by
  have K2 : hK h (m + 2) = 14 := (L.1 2 (by decide)).1
  have LX : QL m (sI h (m + 2) 6 f) := L
  have LY : QL m (sI (sI h (m + 2) 6 f) (m + 2) 7 (hI h m 14)) := L
  have K2X : hK (sI h (m + 2) 6 f) (m + 2) = 14 := K2
  have i14 : hI (sI h (m + 2) 6 f) m 14 = hI h m 14 := by rw [e_sI, if_neg (by omega)]
  rw [mX16_stop, b_gR, if_pos (qK0 L), qR8 L, b_pI, if_pos K2, b_gR, if_pos (qK0 LX), qR8 LX, b_gI, if_pos (qK0 LX), i14, b_pI, if_pos K2X, b_gR, if_pos (qK0 LY), qR8 LY]
/-- a stop, thrown -/
theorem q_thr {α : Type} {m : Nat} {h : MHp} (L : QL m h) (f : Int32) : ((mX16_stop h m f).bind fun r10 => (rcv 14 r10.2 r10.1).bind fun q12 => (some (Sum.inr q12, r10.2) : Option ((α ⊕ Nat) × MHp))) = some (Sum.inr (m + 2), sI (sI h (m + 2) 6 f) (m + 2) 7 (hI h m 14)) := by
  have K2 : hK (sI (sI h (m + 2) 6 f) (m + 2) 7 (hI h m 14)) (m + 2) = 14 := (L.1 2 (by decide)).1
  rw [q_stop L, o_bind, b_rcv, if_pos K2]
theorem q_known {m b n : Nat} {g : Nat → Int32} {B : Bk} {t : Tok} {h : MHp} (P : PR m g n t h) (G : GT g n t) (N : NR2 b B h) (W : NW B) : mX16_readName h m (some b) = if kf B t = 0 then some (Sum.inl (Int32.ofNat (fN B (kL t))), h) else some (Sum.inr (m + 2), sI (sI h (m + 2) 6 (kf B t)) (m + 2) 7 (hI h m 14)) := by
  have L := P.1.1
  have w6 := W.1
  obtain ⟨n1, n2, n3⟩ := N
  by_cases e : isN t = true
  · have k1 := isN_1 e
    have ef := q_fieldOf n1 n2 w6 n3 W.2 (tk_w G k1).1
    have le := fN_le B (kL t)
    rw [mX16_readName, b_rcv, if_pos (qK0 L), q_isName P G, if_pos e, o_bind, if_neg n10, b_gL, if_pos (qK0 L), P.w G k1, b_rcv, if_pos n1.1, ef, o_bind]
    unfold kf fR
    rw [if_pos e]
    by_cases q : fN B (kL t) < bF B
    · rw [if_pos q, if_pos q, if_neg (nm_of (by omega)), if_pos rfl]
    · rw [if_neg q, if_neg q, if_pos rfl, b_rcv, if_pos (qK0 L), q_thr L, if_neg n20]
  · rw [mX16_readName, b_rcv, if_pos (qK0 L), q_isName P G, if_neg e, o_bind, if_pos rfl, b_rcv, if_pos (qK0 L), q_thr L]
    unfold kf
    rw [if_neg e, if_neg n10]
/-- what reading a test changes, on the class's side -/
def FT (c u : Nat) (h h' : MHp) : Prop := hK h' = hK h ∧ hN h' = hN h ∧ hR h' = hR h ∧ hAR h' = hAR h ∧ hS h' = hS h ∧ (∀ a : Nat, a ≠ c + 55 → a < u ∨ u + 4 ≤ a → hI h' a = hI h a ∧ hL h' a = hL h a ∧ hAI h' a = hAI h a ∧ hAL h' a = hAL h a) ∧ hI h' (c + 55) 3 = hI h (c + 55) 3
theorem FT.rf {c u : Nat} {h : MHp} : FT c u h h := ⟨rfl, rfl, rfl, rfl, rfl, fun _ _ _ => ⟨rfl, rfl, rfl, rfl⟩, rfl⟩
theorem FT.tr {c u : Nat} {h h1 h2 : MHp} (A : FT c u h h1) (B : FT c u h1 h2) : FT c u h h2 := by
  obtain ⟨a1, a2, a3, a4, a5, a6, a7⟩ := A
  obtain ⟨b1, b2, b3, b4, b5, b6, b7⟩ := B
  refine ⟨b1.trans a1, b2.trans a2, b3.trans a3, b4.trans a4, b5.trans a5, fun a ha hu => ?_, b7.trans a7⟩
  obtain ⟨x1, x2, x3, x4⟩ := a6 a ha hu
  obtain ⟨y1, y2, y3, y4⟩ := b6 a ha hu
  exact ⟨y1.trans x1, y2.trans x2, y3.trans x3, y4.trans x4⟩
theorem Sp.ft {c u : Nat} {h h' : MHp} (S : Sp c h h') : FT c u h h' := by
  obtain ⟨a1, a2, a3, a4, a5, a6, a7, a8, a9, a10⟩ := S
  exact ⟨a1, a2, a3, a4, a7, fun a ha _ => ⟨(a8 a ha).1, (a8 a ha).2, by rw [a5], by rw [a6]⟩, a9⟩
theorem F4.ft {c u : Nat} {h h' : MHp} (S : F4 u h h') (d : c + 55 < u ∨ u + 4 ≤ c + 55) : FT c u h h' := by
  obtain ⟨a1, a2, a3, a4, a5, a6⟩ := S
  exact ⟨a1, a2, a3, a4, a5, fun a _ hu => a6 a hu, by rw [(a6 (c + 55) d).1]⟩
theorem FT.I1 {c u : Nat} {h : MHp} (v : Int32) : FT c u h (sI h (c + 55) 1 v) :=
  ⟨rfl, rfl, rfl, rfl, rfl, fun a ha _ => ⟨by funext i; rw [e_sI, if_neg (fun e => ha e.1)], rfl, rfl, rfl⟩, by rw [e_sI, if_neg (by omega)]⟩
theorem FT.CL {c u : Nat} {h h' : MHp} (S : FT c u h h') (L : CL c h) : CL c h' := by
  obtain ⟨l1, l2, l3⟩ := L
  obtain ⟨a1, a2, a3, a4, -⟩ := S
  exact ⟨by rw [a1, a2]; exact l1, by rw [a3]; exact l2, by rw [a4]; exact l3⟩
theorem FT.IsT {c u t : Nat} {h h' : MHp} (S : FT c u h h') (I : IsT h t) : IsT h' t := by
  obtain ⟨a1, a2, a3, -⟩ := S
  unfold Jvm.Pilot.CCountOfficeLaw_law_r2784_6c1ddc.IsT at *
  rw [a1, a2, a3]
  exact I
theorem FT.IsB {c u b : Nat} {h h' : MHp} (S : FT c u h h') (I : IsB h b) : IsB h' b := by
  have St := S
  obtain ⟨a1, a2, a3, a4, -⟩ := S
  obtain ⟨i1, i2, i3, i4, i5, i6, i7, i8, i9, i10, i11, i12, i13, i14⟩ := I
  refine ⟨by rw [a1]; exact i1, by rw [a3]; exact i2, by rw [a3]; exact i3, by rw [a3]; exact i4, by rw [a3]; exact i5, by rw [a1]; exact i6, by rw [a1]; exact i7, by rw [a1]; exact i8, by rw [a1]; exact i9, by rw [a2]; exact i10, by rw [a2]; exact i11, by rw [a2]; exact i12, by rw [a2]; exact i13, fun k hk => ⟨by rw [a4]; exact (i14 k hk).1, St.IsT (i14 k hk).2⟩⟩
theorem FT.NB {c u bo : Nat} {B : Bk} {h h' : MHp} (S : FT c u h h') (N : NB c bo B h) (d : bo + 1 < u ∨ u + 4 ≤ bo) (d2 : bo ≠ c + 55 ∧ bo + 1 ≠ c + 55) : NB c bo B h' := by
  obtain ⟨n1, n2, n3, n4⟩ := N
  refine ⟨by rw [S.2.2.1]; exact n1, S.IsB n2, by rw [(S.2.2.2.2.2.1 bo d2.1 (by omega)).1]; exact n3, fun f hf => by rw [(S.2.2.2.2.2.1 (bo + 1) d2.2 (by omega)).2.2.2]; exact n4 f hf⟩
theorem F4.PC {c u n : Nat} {g : Nat → Int32} {t : Tok} {h h' : MHp} (S : F4 u h h') (d : c + 55 < u ∨ (c + 1 < u ∧ u + 4 ≤ c + 55)) (P : PC c g n t h) : PC c g n t h' := by
  have FTx : FT c u h h' := S.ft (by omega)
  obtain ⟨a1, a2, a3, a4, a5, a6⟩ := S
  obtain ⟨⟨T1, T2, T3, T4⟩, p1, p2, p3, p4, p5, p6⟩ := P
  obtain ⟨x1, x2, x3, x4⟩ := a6 (c + 55) (by omega)
  refine ⟨⟨FTx.CL T1, ?_, by rw [x1]; exact T3, T4⟩, p1, by rw [x1]; exact p2, by rw [x1]; exact p3, by rw [x1]; exact p4, by rw [x1]; exact p5, by rw [x2]; exact p6⟩
  rw [(a6 (c + 1) (by omega)).2.2.1]; exact T2
theorem Sp.CT {c u : Nat} {T : Ts} {h h' : MHp} (S : Sp c h h') (d : c + 55 < u ∨ u + 4 ≤ c + 55) (C : CT h u T) : CT h' u T := by
  obtain ⟨a1, a2, a3, a4, a5, a6, a7, a8, a9, a10⟩ := S
  obtain ⟨c1, c2, c3⟩ := C
  have e := (a8 u (by omega)).1
  refine ⟨by rw [e]; exact c1, by rw [a5]; exact c2, fun f hf => by rw [e]; exact c3 f hf⟩
/-- and on the reference's -/
def FQ (m u : Nat) (h h' : MHp) : Prop := hS h ≤ hS h' ∧ (∀ a : Nat, a < hS h → hK h' a = hK h a ∧ hN h' a = hN h a ∧ hR h' a = hR h a ∧ hAR h' a = hAR h a ∧ (a < u ∨ u + 5 ≤ a → hAI h' a = hAI h a ∧ hAL h' a = hAL h a ∧ (a ≠ m → a ≠ m + 2 → hI h' a = hI h a ∧ hL h' a = hL h a))) ∧ ∀ j : Nat, ¬ (12 ≤ j ∧ j ≤ 16) → hI h' m j = hI h m j
theorem FQ.rf {m u : Nat} {h : MHp} : FQ m u h h := ⟨Nat.le_refl _, fun _ _ => ⟨rfl, rfl, rfl, rfl, fun _ => ⟨rfl, rfl, fun _ _ => ⟨rfl, rfl⟩⟩⟩, fun _ _ => rfl⟩
theorem FQ.tr {m u : Nat} {h h1 h2 : MHp} (A : FQ m u h h1) (B : FQ m u h1 h2) : FQ m u h h2 := by
  refine ⟨Nat.le_trans A.1 B.1, fun a ha => ?_, fun j hj => (B.2.2 j hj).trans (A.2.2 j hj)⟩
  obtain ⟨x1, x2, x3, x4, x5⟩ := A.2.1 a ha
  obtain ⟨y1, y2, y3, y4, y5⟩ := B.2.1 a (Nat.lt_of_lt_of_le ha A.1)
  refine ⟨y1.trans x1, y2.trans x2, y3.trans x3, y4.trans x4, fun hu => ?_⟩
  obtain ⟨p1, p2, p3⟩ := x5 hu
  obtain ⟨q1, q2, q3⟩ := y5 hu
  exact ⟨q1.trans p1, q2.trans p2, fun h1 h2 => ⟨(q3 h1 h2).1.trans (p3 h1 h2).1, (q3 h1 h2).2.trans (p3 h1 h2).2⟩⟩
theorem Sn.fq {m u : Nat} {h h' : MHp} (S : Sn m h h') : FQ m u h h' := by
  obtain ⟨a1, a2, a3, a4, a5, a6, a7, a8, a9⟩ := S
  exact ⟨by omega, fun a _ => ⟨by rw [a1], by rw [a2], by rw [a3], by rw [a4], fun _ => ⟨by rw [a5], by rw [a6], fun ha _ => a8 a ha⟩⟩, a9⟩
theorem FQ.stop {m u : Nat} {h : MHp} (f : Int32) : FQ m u h (sI (sI h (m + 2) 6 f) (m + 2) 7 (hI h m 14)) :=
  ⟨Nat.le_refl _, fun a _ => ⟨rfl, rfl, rfl, rfl, fun _ => ⟨rfl, rfl, fun _ h2 => ⟨by funext i; rw [e_sI, if_neg (fun e => h2 e.1), e_sI, if_neg (fun e => h2 e.1)], rfl⟩⟩⟩, fun j _ => by rw [e_sI, if_neg (by omega), e_sI, if_neg (by omega)]⟩
theorem FQ.AI {m u : Nat} {h : MHp} (k : Nat) (g : Nat → Int32) (hk : k < 5) : FQ m u h (sAI h (u + k) g) :=
  ⟨Nat.le_refl _, fun a _ => ⟨rfl, rfl, rfl, rfl, fun hu => ⟨by rw [e_sAI, if_neg (by omega)], rfl, fun _ _ => ⟨rfl, rfl⟩⟩⟩, fun _ _ => rfl⟩
theorem FQ.I {m u : Nat} {h : MHp} (j : Nat) (v : Int32) (d : u ≠ m) : FQ m u h (sI h u j v) :=
  ⟨Nat.le_refl _, fun a _ => ⟨rfl, rfl, rfl, rfl, fun hu => ⟨rfl, rfl, fun _ _ => ⟨by funext i; rw [e_sI, if_neg (fun e => by have := e.1; omega)], rfl⟩⟩⟩, fun i _ => by rw [e_sI, if_neg (fun e => d e.1.symm)]⟩

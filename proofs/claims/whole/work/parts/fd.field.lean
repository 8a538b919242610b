/-! reading a field: the outcome, and the class's -/
def dgF (g : Nat → Int32) (n i : Nat) (t : Tok) : Int32 := if isW t i = true then (if kK (nxt g n t) = 2 then (if 1 ≤ kV (nxt g n t) ∧ kV (nxt g n t) ≤ 9 then 0 else 4) else 1) else 1
def dgT (g : Nat → Int32) (n i : Nat) (t : Tok) : Tok := if isW t i = true then nxt g n t else t
theorem isW_1 {t : Tok} {i : Nat} (w : isW t i = true) : kK t = 1 := by
  unfold isW at w
  rw [Bool.and_eq_true, decide_eq_true_eq] at w
  exact w.1
theorem dgF_0 {g : Nat → Int32} {n i : Nat} {t : Tok} (h : dgF g n i t = 0) : isW t i = true ∧ kK (nxt g n t) = 2 ∧ 1 ≤ kV (nxt g n t) ∧ kV (nxt g n t) ≤ 9 := by
  unfold dgF at h
  by_cases a1 : isW t i = true
  · rw [if_pos a1] at h
    by_cases a2 : kK (nxt g n t) = 2
    · rw [if_pos a2] at h
      by_cases a3 : 1 ≤ kV (nxt g n t) ∧ kV (nxt g n t) ≤ 9
      · exact ⟨a1, a2, a3⟩
      · rw [if_neg a3] at h; exact absurd h n40
    · rw [if_neg a2] at h; exact absurd h n10
  · rw [if_neg a1] at h; exact absurd h n10
theorem dg_v {x : Int32} (h1 : 1 ≤ x) (h2 : x ≤ 9) : ∃ v : Nat, 1 ≤ v ∧ v ≤ 9 ∧ x = Int32.ofNat v := by
  have h0 : ¬ x < 0 := fun hh => by
    have := Int32.lt_of_le_of_lt h1 hh
    exact absurd this (by decide)
  obtain ⟨v, rfl, hv⟩ := ex_of h0
  rw [show (1 : Int32) = Int32.ofNat 1 from rfl, le_of (by omega) hv] at h1
  rw [show (9 : Int32) = Int32.ofNat 9 from rfl, le_of hv (by omega)] at h2
  exact ⟨v, h1, h2, rfl⟩
theorem p_digitB {c u n i : Nat} {g : Nat → Int32} {t : Tok} {h : MHp} {w : Int64} (P : PC c g n t h) (G : GT g n t) (hi : i < 9) (hw : cwd (wdN i) = w) : (dgF g n i t ≠ 0 ∧ CFl c u h (mX8_readDigitBehind h (c + 55) w) (dgF g n i t) (dgT g n i t)) ∨ dgF g n i t = 0 ∧ ∃ h' : MHp, mX8_readDigitBehind h (c + 55) w = some (1, h') ∧ Sp c h h' ∧ PC c g n (nxt g n t) h' ∧ GT g n (nxt g n t) := by
  have K := lK55 P.1.1
  have iw := p_isWord P G hi hw
  unfold dgF dgT
  by_cases a1 : isW t i = true
  · rw [if_pos a1] at iw
    rw [if_pos a1, if_pos a1]
    obtain ⟨h1, e1, S1, P1, G1⟩ := P.st (by have := isW_1 a1; omega)
    have K1 := lK55 P1.1.1
    have k5 := kK_5 G1
    have kd : (Int32.ofNat (kK (nxt g n t)) = 2) = (kK (nxt g n t) = 2) := by rw [show (2 : Int32) = Int32.ofNat 2 from rfl, kd_c k5 (by omega)]
    by_cases a2 : kK (nxt g n t) = 2
    · rw [if_pos a2]
      have x6 : hI h1 (c + 55) 6 = kV (nxt g n t) := P1.2.2.2.2.2.1 (Or.inl a2)
      by_cases a3 : 1 ≤ kV (nxt g n t) ∧ kV (nxt g n t) ≤ 9
      · rw [if_pos a3]
        right
        refine ⟨rfl, h1, ?_, S1, P1, G1⟩
        rw [mX8_readDigitBehind, b_rcv, if_pos K, iw, o_bind, if_neg n10, b_rcv, if_pos K, e1, o_bind, b_gI, if_pos K1, P1.2.2.2.1, if_pos (by rw [kd]; exact a2), b_gI, if_pos K1, x6, p_within, if_pos a3, o_bind, if_neg n10]
      · rw [if_neg a3]
        left
        refine ⟨n40, CFl.at 4 S1.ft P1 ?_⟩
        rw [mX8_readDigitBehind, b_rcv, if_pos K, iw, o_bind, if_neg n10, b_rcv, if_pos K, e1, o_bind, b_gI, if_pos K1, P1.2.2.2.1, if_pos (by rw [kd]; exact a2), b_gI, if_pos K1, x6, p_within, if_neg a3, o_bind, if_pos rfl, b_rcv, if_pos K1, mX8_fail, b_pI, if_pos K1, o_bind, if_pos rfl]
    · rw [if_neg a2]
      left
      refine ⟨n10, CFl.at 1 S1.ft P1 ?_⟩
      rw [mX8_readDigitBehind, b_rcv, if_pos K, iw, o_bind, if_neg n10, b_rcv, if_pos K, e1, o_bind, b_gI, if_pos K1, P1.2.2.2.1, if_neg (by rw [kd]; exact a2), b_rcv, if_pos K1, mX8_fail, b_pI, if_pos K1, o_bind, rB0, o_bind]
  · rw [if_neg a1] at iw
    rw [if_neg a1, if_neg a1]
    left
    refine ⟨n10, CFl.at 1 FT.rf P ?_⟩
    rw [mX8_readDigitBehind, b_rcv, if_pos K, iw, o_bind, if_pos rfl, b_rcv, if_pos K, mX8_fail, b_pI, if_pos K, o_bind, rB0, o_bind]
/-- a book with one field more -/
def addF (B : Bk) (l : List Nat) (v w : Nat) : Bk := (bF B + 1, bN B, va_up (bT B) (bF B) v, va_up (bC B) (bF B) w, bR B, va_up (bM B) (bF B) l)
theorem addF_F (B : Bk) (l : List Nat) (v w : Nat) : bF (addF B l v w) = bF B + 1 := (rfl)
theorem addF_N (B : Bk) (l : List Nat) (v w : Nat) : bN (addF B l v w) = bN B := (rfl)
theorem addF_T (B : Bk) (l : List Nat) (v w f : Nat) : bT (addF B l v w) f = if f = bF B then v else bT B f := (rfl)
theorem addF_C (B : Bk) (l : List Nat) (v w f : Nat) : bC (addF B l v w) f = if f = bF B then w else bC B f := (rfl)
theorem addF_R (B : Bk) (l : List Nat) (v w : Nat) : bR (addF B l v w) = bR B := (rfl)
theorem addF_M (B : Bk) (l : List Nat) (v w f : Nat) : bM (addF B l v w) f = if f = bF B then l else bM B f := (rfl)
theorem addF_sp (B : Bk) (l : List Nat) (v w : Nat) : ∀ k : Nat, k ≤ bF B → spT (addF B l v w) k = spT B k
  | 0, _ => rfl
  | k + 1, h => by
    show spT (addF B l v w) k * (bT (addF B l v w) k + 1) = spT B k * (bT B k + 1)
    rw [addF_sp B l v w k (by omega), addF_T, if_neg (by omega)]
theorem addF_sp1 (B : Bk) (l : List Nat) (v w : Nat) : spT (addF B l v w) (bF (addF B l v w)) = spT B (bF B) * (v + 1) := by
  rw [addF_F]
  show spT (addF B l v w) (bF B) * (bT (addF B l v w) (bF B) + 1) = _
  rw [addF_sp B l v w _ (Nat.le_refl _), addF_T, if_pos rfl]
theorem F4.AL {t : Nat} {h : MHp} (k : Nat) (g : Nat → Int64) (hk : k < 4) : F4 t h (sAL h (t + k) g) :=
  ⟨rfl, rfl, rfl, rfl, rfl, fun a ha => ⟨rfl, rfl, rfl, by rw [e_sAL, if_neg (by omega)]⟩⟩
theorem F4.CT {t u : Nat} {T : Ts} {h h' : MHp} (F : F4 t h h') (d : u + 4 ≤ t ∨ t + 4 ≤ u) (C : CT h u T) : CT h' u T := by
  obtain ⟨a1, a2, a3, a4, a5, a6⟩ := F
  refine CT.ag (fun a x y => ?_) C
  obtain ⟨x1, x2, x3, x4⟩ := a6 a (by omega)
  exact ⟨by rw [a1], by rw [a2], x1, x2, by rw [a3], x3, x4, by rw [a4]⟩
/-- the class's book that is being written -/
def Kb (c bo : Nat) (g : Nat → Int32) (n : Nat) (B : Bk) (t : Tok) (h : MHp) : Prop := PC c g n t h ∧ NB c bo B h ∧ CB h bo B ∧ hI h bo 6 = Int32.ofNat (spT B (bF B))
theorem p_addField {c bo n v w : Nat} {g : Nat → Int32} {B : Bk} {t : Tok} {l : List Nat} {h : MHp} (hbo : c + 55 < bo ∨ (c + 1 < bo ∧ bo + 4 ≤ c + 55)) (K : Kb c bo g n B t h) (hf : bF B < 6) : ∃ h1 : MHp, mX1_addField h bo (cwd l) (Int32.ofNat v) (Int32.ofNat w) = some h1 ∧ F4 bo h h1 ∧ Kb c bo g n (addF B l v w) t h1 := by
  obtain ⟨P, ⟨n1, n2, n3, n4⟩, ⟨c1, c2, c3, c4⟩, s6⟩ := K
  obtain ⟨i1, i2, i3, i4, i5, i6, i7, i8, i9, i10, i11, i12, i13, i14⟩ := id n2
  have bd := bad_n (k := bF B) (n := 6) hf (by omega)
  have cl : (Int32.ofNat (bF B)).toNatClampNeg = bF B := cl_of (by omega)
  obtain ⟨X1, hX1⟩ : ∃ X : MHp, X = sAL h (bo + 1) (va_up (hAL h (bo + 1)) (bF B) (cwd l)) := ⟨_, rfl⟩
  obtain ⟨X2, hX2⟩ : ∃ X : MHp, X = sAI X1 (bo + 2) (va_up (hAI X1 (bo + 2)) (bF B) (Int32.ofNat v)) := ⟨_, rfl⟩
  obtain ⟨X3, hX3⟩ : ∃ X : MHp, X = sAI X2 (bo + 3) (va_up (hAI X2 (bo + 3)) (bF B) (Int32.ofNat w)) := ⟨_, rfl⟩
  obtain ⟨X4, hX4⟩ : ∃ X : MHp, X = sI X3 bo 6 (Int32.ofNat (spT B (bF B) * (v + 1))) := ⟨_, rfl⟩
  obtain ⟨X5, hX5⟩ : ∃ X : MHp, X = sI X4 bo 4 (Int32.ofNat (bF B + 1)) := ⟨_, rfl⟩
  have F1 : F4 bo h X1 := by rw [hX1]; exact F4.AL 1 _ (by omega)
  have F2 : F4 bo X1 X2 := by rw [hX2]; exact F4.AI 2 _ (by omega)
  have F3 : F4 bo X2 X3 := by rw [hX3]; exact F4.AI 3 _ (by omega)
  have F40 : F4 bo X3 X4 := by rw [hX4]; exact F4.I 6 _
  have F5 : F4 bo X4 X5 := by rw [hX5]; exact F4.I 4 _
  have FF := (((F1.tr F2).tr F3).tr F40).tr F5
  have y1 : hI X1 bo 4 = Int32.ofNat (bF B) := by rw [hX1]; exact c1
  have y2 : hI X2 bo 4 = Int32.ofNat (bF B) := by rw [hX2]; exact y1
  have y3 : hI X3 bo 4 = Int32.ofNat (bF B) := by rw [hX3]; exact y2
  have y36 : hI X3 bo 6 = Int32.ofNat (spT B (bF B)) := by rw [hX3, hX2, hX1]; exact s6
  have y4 : hI X4 bo 4 = Int32.ofNat (bF B) := by rw [hX4, e_sI, if_neg (by omega)]; exact y3
  have q1 : hK X1 = hK h := F1.1
  have q2 : hK X2 = hK h := (F1.tr F2).1
  have q3 : hK X3 = hK h := ((F1.tr F2).tr F3).1
  have q4 : hK X4 = hK h := (((F1.tr F2).tr F3).tr F40).1
  have r1 : hR X1 = hR h := F1.2.2.1
  have r2 : hR X2 = hR h := (F1.tr F2).2.2.1
  have m1 : hN X1 = hN h := F1.2.1
  have m2 : hN X2 = hN h := (F1.tr F2).2.1
  have lt : Int32.ofNat (bF B) < 6 := by rw [show (6 : Int32) = Int32.ofNat 6 from rfl, lt_of' (by omega) (by omega)]; exact hf
  have e : mX1_addField h bo (cwd l) (Int32.ofNat v) (Int32.ofNat w) = some X5 := by
    rw [mX1_addField, b_gI, if_pos i1, c1, if_pos lt, b_gR, if_pos i1, i2, b_gI, if_pos i1, c1, b_pAL, if_pos i6, i10, if_neg bd, cl, ← hX1, b_gR, if_pos (by rw [q1]; exact i1), r1, i3, b_gI, if_pos (by rw [q1]; exact i1), y1, b_pAI, if_pos (by rw [q1]; exact i7), m1, i11, if_neg bd, cl, ← hX2, b_gR, if_pos (by rw [q2]; exact i1), r2, i4, b_gI, if_pos (by rw [q2]; exact i1), y2, b_pAI, if_pos (by rw [q2]; exact i8), m2, i12, if_neg bd, cl, ← hX3, b_gI, if_pos (by rw [q3]; exact i1), y36, s1_of, ← Int32.ofNat_mul, b_pI, if_pos (by rw [q3]; exact i1), ← hX4, b_gI, if_pos (by rw [q4]; exact i1), y4, s1_of, b_pI, if_pos (by rw [q4]; exact i1), ← hX5]
  have z2 : hAI X5 (bo + 2) = va_up (hAI h (bo + 2)) (bF B) (Int32.ofNat v) := by
    rw [hX5, e_AI_sI, hX4, e_AI_sI, hX3, e_sAI, if_neg (show ¬ bo + 2 = bo + 3 by omega), hX2, e_sAI, if_pos rfl, hX1]; rfl
  have z3 : hAI X5 (bo + 3) = va_up (hAI h (bo + 3)) (bF B) (Int32.ofNat w) := by
    rw [hX5, e_AI_sI, hX4, e_AI_sI, hX3, e_sAI, if_pos rfl, hX2, e_sAI, if_neg (show ¬ bo + 3 = bo + 2 by omega), hX1]; rfl
  have z1 : hAL X5 (bo + 1) = va_up (hAL h (bo + 1)) (bF B) (cwd l) := by
    rw [hX5, hX4, hX3, hX2]
    show hAL X1 (bo + 1) = _
    rw [hX1, e_sAL, if_pos rfl]
  have FX : FT c bo h X5 := FF.ft (by omega)
  refine ⟨X5, e, FF, FF.PC hbo P, ⟨by rw [FF.2.2.1]; exact n1, FX.IsB n2, by rw [hX5, e_Iself, addF_F], fun f hf2 => ?_⟩, ⟨by rw [hX5, e_Iself, addF_F], ?_, fun f hf2 => ?_, fun k hk => ?_⟩, ?_⟩
  · rw [addF_F] at hf2
    rw [z1, e_up, addF_M]
    by_cases q : f = bF B
    · rw [if_pos q, if_pos q]
    · rw [if_neg q, if_neg q]; exact n4 f (by omega)
  · rw [hX5, e_sI, if_neg (by omega), hX4, e_sI, if_neg (by omega), hX3, hX2, hX1]; exact c2
  · rw [addF_F] at hf2
    rw [z2, z3, e_up, e_up, addF_T, addF_C]
    by_cases q : f = bF B
    · rw [if_pos q, if_pos q, if_pos q, if_pos q]; exact ⟨rfl, rfl⟩
    · rw [if_neg q, if_neg q, if_neg q, if_neg q]; exact c3 f (by omega)
  · rw [addF_R]
    exact FF.CT (by omega) (c4 k hk)
  · rw [addF_sp1, hX5, e_sI, if_neg (by omega), hX4, e_Iself]

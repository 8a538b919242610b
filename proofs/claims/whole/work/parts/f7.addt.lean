/-! a ONE is added to a test of the class -/
def addT (T : Ts) (f : Nat) (s r : Int32) : Ts := (tn T + 1, va_up (tF T) (tn T) f, va_up (tS T) (tn T) s, va_up (tR T) (tn T) r)
def noT : Ts := (0, fun _ => 0, fun _ => 0, fun _ => 0)
theorem addT_n (T : Ts) (f : Nat) (s r : Int32) : tn (addT T f s r) = tn T + 1 := (rfl)
theorem addT_F (T : Ts) (f : Nat) (s r : Int32) (j : Nat) : tF (addT T f s r) j = if j = tn T then f else tF T j := (rfl)
theorem addT_S (T : Ts) (f : Nat) (s r : Int32) (j : Nat) : tS (addT T f s r) j = if j = tn T then s else tS T j := (rfl)
theorem addT_R (T : Ts) (f : Nat) (s r : Int32) (j : Nat) : tR (addT T f s r) j = if j = tn T then r else tR T j := (rfl)
theorem one_all : ∀ f : Nat, f < 6 → ∀ k : Nat, k < 6 → ((1 : Int32) <<< (Int32.ofNat f &&& 31)).toBitVec.getLsbD k = decide (k = f) := by decide +kernel
theorem b0_or (x y : Int32) {k : Nat} (hk : k < 32) : (((x ||| y) >>> (Int32.ofNat k &&& 31)) &&& 1 = 0) ↔ (((x >>> (Int32.ofNat k &&& 31)) &&& 1) = 0) ∧ (((y >>> (Int32.ofNat k &&& 31)) &&& 1) = 0) := by
  rw [b0_bit _ hk, b0_bit _ hk, b0_bit _ hk, Int32.toBitVec_or, BitVec.getLsbD_or, Bool.or_eq_false_iff]
theorem b0_one {f k : Nat} (hf : f < 6) (hk : k < 6) : ((((1 : Int32) <<< (Int32.ofNat f &&& 31)) >>> (Int32.ofNat k &&& 31)) &&& 1 = 0) ↔ ¬ k = f := by
  rw [b0_bit _ (show k < 32 by omega), one_all f hf k hk, decide_eq_false_iff_not]
theorem b0_zero {k : Nat} (hk : k < 6) : (((0 : Int32) >>> (Int32.ofNat k &&& 31)) &&& 1 = 0) := by
  rw [b0_bit _ (show k < 32 by omega)]
  exact BitVec.getLsbD_zero
/-- a test's second thing: a value, or a field g as -1 - g -/
def okR (nf : Nat) (r : Int32) : Prop := 0 ≤ r ∨ ∃ g : Nat, g < nf ∧ r = (-1) - Int32.ofNat g
theorem okR_n {nf : Nat} (h6 : nf ≤ 6) {g : Nat} (hg : g < nf) : ¬ 0 ≤ (-1) - Int32.ofNat g := by
  have : ∀ g : Nat, g < 6 → ¬ 0 ≤ (-1) - Int32.ofNat g := by decide +kernel
  exact this g (by omega)
theorem okR_k {r : Int32} (h : 0 ≤ r) {k : Nat} (hk : k < 6) : r ≠ (-1) - Int32.ofNat k := fun e => okR_n (nf := 6) (by omega) hk (e ▸ h)
theorem okR_i {k g : Nat} (hk : k < 6) (hg : g < 6) : ((-1) - Int32.ofNat g ≠ (-1) - Int32.ofNat k) ↔ ¬ k = g := by
  have : ∀ k : Nat, k < 6 → ∀ g : Nat, g < 6 → (((-1) - Int32.ofNat g ≠ (-1) - Int32.ofNat k) ↔ ¬ k = g) := by decide +kernel
  exact this k hk g hg
/-- changes in four cells alone -/
def F4 (t : Nat) (h h' : MHp) : Prop := hK h' = hK h ∧ hN h' = hN h ∧ hR h' = hR h ∧ hAR h' = hAR h ∧ hS h' = hS h ∧ ∀ a : Nat, a < t ∨ t + 4 ≤ a → hI h' a = hI h a ∧ hL h' a = hL h a ∧ hAI h' a = hAI h a ∧ hAL h' a = hAL h a
theorem F4.rf {t : Nat} {h : MHp} : F4 t h h := ⟨rfl, rfl, rfl, rfl, rfl, fun _ _ => ⟨rfl, rfl, rfl, rfl⟩⟩
theorem F4.tr {t : Nat} {h h1 h2 : MHp} (A : F4 t h h1) (B : F4 t h1 h2) : F4 t h h2 := by
  obtain ⟨a1, a2, a3, a4, a5, a6⟩ := A
  obtain ⟨b1, b2, b3, b4, b5, b6⟩ := B
  refine ⟨b1.trans a1, b2.trans a2, b3.trans a3, b4.trans a4, b5.trans a5, fun a ha => ?_⟩
  obtain ⟨x1, x2, x3, x4⟩ := a6 a ha
  obtain ⟨y1, y2, y3, y4⟩ := b6 a ha
  exact ⟨y1.trans x1, y2.trans x2, y3.trans x3, y4.trans x4⟩
theorem F4.I {t : Nat} {h : MHp} (j : Nat) (v : Int32) : F4 t h (sI h t j v) :=
  ⟨rfl, rfl, rfl, rfl, rfl, fun a ha => ⟨by funext i; rw [e_sI, if_neg (fun e => by have := e.1; omega)], rfl, rfl, rfl⟩⟩
theorem F4.AI {t : Nat} {h : MHp} (k : Nat) (g : Nat → Int32) (hk : k < 4) : F4 t h (sAI h (t + k) g) :=
  ⟨rfl, rfl, rfl, rfl, rfl, fun a ha => ⟨rfl, rfl, by rw [e_sAI, if_neg (by omega)], rfl⟩⟩
theorem F4.IsT {t u : Nat} {h h' : MHp} (F : F4 t h h') (I : IsT h u) : IsT h' u := by
  obtain ⟨a1, a2, a3, -⟩ := F
  unfold Jvm.Pilot.CCountOfficeLaw_law_r2784_6c1ddc.IsT at *
  rw [a1, a2, a3]
  exact I
theorem p_clear {t : Nat} {h : MHp} (I : IsT h t) : ∃ h1 : MHp, mX10_clear h t = some h1 ∧ CT h1 t noT ∧ F4 t h h1 := by
  have K := I.1
  have K1 : hK (sI h t 3 0) t = 11 := K
  refine ⟨sI (sI h t 3 0) t 4 0, ?_, ⟨?_, fun j hj => absurd hj (Nat.not_lt_zero _), fun f hf => ?_⟩, (F4.I 3 0).tr (F4.I 4 0)⟩
  · rw [mX10_clear, b_pI, if_pos K, b_pI, if_pos K1]
  · rw [e_sI, if_neg (by omega), e_Iself]; rfl
  · rw [e_Iself]
    exact ⟨fun _ j hj => absurd hj (Nat.not_lt_zero _), fun _ => b0_zero hf⟩
theorem p_addT {t f nf : Nat} {s r : Int32} {h : MHp} {T : Ts} (I : IsT h t) (C : CT h t T) (hn : tn T < 12) (hf : f < nf) (h6 : nf ≤ 6) (hr : okR nf r) : ∃ h1 : MHp, mX10_add h t (Int32.ofNat f) s r = some h1 ∧ CT h1 t (addT T f s r) ∧ F4 t h h1 := by
  obtain ⟨i1, i2, i3, i4, i5, i6, i7, i8, i9, i10⟩ := id I
  obtain ⟨c1, c2, c3⟩ := C
  have bd := bad_n (k := tn T) (n := 12) (by omega) (by omega)
  have cl : (Int32.ofNat (tn T)).toNatClampNeg = tn T := cl_of (by omega)
  obtain ⟨X1, hX1⟩ : ∃ X : MHp, X = sAI h (t + 1) (va_up (hAI h (t + 1)) (tn T) (Int32.ofNat f)) := ⟨_, rfl⟩
  obtain ⟨X2, hX2⟩ : ∃ X : MHp, X = sAI X1 (t + 2) (va_up (hAI X1 (t + 2)) (tn T) s) := ⟨_, rfl⟩
  obtain ⟨X3, hX3⟩ : ∃ X : MHp, X = sAI X2 (t + 3) (va_up (hAI X2 (t + 3)) (tn T) r) := ⟨_, rfl⟩
  obtain ⟨X4, hX4⟩ : ∃ X : MHp, X = sI X3 t 3 (Int32.ofNat (tn T + 1)) := ⟨_, rfl⟩
  have F1 : F4 t h X1 := by rw [hX1]; exact F4.AI 1 _ (by omega)
  have F2 : F4 t X1 X2 := by rw [hX2]; exact F4.AI 2 _ (by omega)
  have F3 : F4 t X2 X3 := by rw [hX3]; exact F4.AI 3 _ (by omega)
  have F40 : F4 t X3 X4 := by rw [hX4]; exact F4.I 3 _
  have I1 := F1.IsT I
  have I2 := F2.IsT I1
  have I3 := F3.IsT I2
  have I4 := F40.IsT I3
  have x1 : hI X1 t 3 = Int32.ofNat (tn T) := by rw [hX1]; exact c1
  have x2 : hI X2 t 3 = Int32.ofNat (tn T) := by rw [hX2]; exact x1
  have x3 : hI X3 t 3 = Int32.ofNat (tn T) := by rw [hX3]; exact x2
  have x44 : hI X4 t 4 = hI h t 4 := by rw [hX4, e_sI, if_neg (by omega), hX3, hX2, hX1]; rfl
  obtain ⟨y, hy⟩ : ∃ y : Int32, y = (if 0 ≤ r then (0 : Int32) else (1 : Int32) <<< (((-1) - r) &&& 31)) := ⟨_, rfl⟩
  have base : mX10_add h t (Int32.ofNat f) s r = some (sI X4 t 4 (hI h t 4 ||| (((1 : Int32) <<< (Int32.ofNat f &&& 31)) ||| y))) := by
    rw [mX10_add, b_rcv, if_pos i1, mX10_isFull, b_gI, if_pos i1, c1, if_pos (by rw [show (12 : Int32) = Int32.ofNat 12 from rfl, lt_of' (by omega) (by omega)]; exact hn), o_bind, if_pos rfl, b_gR, if_pos i1, i2, b_gI, if_pos i1, c1, b_pAI, if_pos i5, i8, if_neg bd, cl, ← hX1, b_gR, if_pos I1.1, I1.2.2.1, b_gI, if_pos I1.1, x1, b_pAI, if_pos I1.2.2.2.2.2.1, I1.2.2.2.2.2.2.2.2.1, if_neg bd, cl, ← hX2, b_gR, if_pos I2.1, I2.2.2.2.1, b_gI, if_pos I2.1, x2, b_pAI, if_pos I2.2.2.2.2.2.2.1, I2.2.2.2.2.2.2.2.2.2, if_neg bd, cl, ← hX3, b_gI, if_pos I3.1, x3, b_pI, if_pos I3.1, s1_of, ← hX4, b_gI, if_pos I4.1, x44]
    by_cases q : 0 ≤ r
    · rw [if_pos q] at hy
      rw [if_pos q, mX10_add_b69, b_pI, if_pos I4.1, hy]
    · rw [if_neg q] at hy
      rw [if_neg q, mX10_add_b69, b_pI, if_pos I4.1, hy]
  refine ⟨_, base, ⟨?_, fun j hj => ?_, fun k hk => ?_⟩, (((F1.tr F2).tr F3).tr F40).tr (F4.I 4 _)⟩
  · rw [e_sI, if_neg (by omega), hX4, e_Iself, addT_n]
  · rw [addT_n] at hj
    have y3 : hAI X4 (t + 3) = va_up (hAI h (t + 3)) (tn T) r := by
      rw [hX4, e_AI_sI, hX3, e_sAI, if_pos rfl, hX2, e_sAI, if_neg (show ¬ t + 3 = t + 2 by omega), hX1, e_sAI, if_neg (show ¬ t + 3 = t + 1 by omega)]
    have y2 : hAI X4 (t + 2) = va_up (hAI h (t + 2)) (tn T) s := by
      rw [hX4, e_AI_sI, hX3, e_sAI, if_neg (show ¬ t + 2 = t + 3 by omega), hX2, e_sAI, if_pos rfl, hX1, e_sAI, if_neg (show ¬ t + 2 = t + 1 by omega)]
    have y1 : hAI X4 (t + 1) = va_up (hAI h (t + 1)) (tn T) (Int32.ofNat f) := by
      rw [hX4, e_AI_sI, hX3, e_sAI, if_neg (show ¬ t + 1 = t + 3 by omega), hX2, e_sAI, if_neg (show ¬ t + 1 = t + 2 by omega), hX1, e_sAI, if_pos rfl]
    rw [addT_F, addT_S, addT_R, e_AI_sI, y1, y2, y3, e_up, e_up, e_up]
    by_cases q : j = tn T
    · rw [if_pos q, if_pos q, if_pos q, if_pos q, if_pos q, if_pos q]
      exact ⟨rfl, rfl, rfl⟩
    · rw [if_neg q, if_neg q, if_neg q, if_neg q, if_neg q, if_neg q]
      exact c2 j (by omega)
  · rw [e_Iself]
    rw [b0_or _ _ (show k < 32 by omega), b0_or _ _ (show k < 32 by omega), c3 k hk, b0_one (show f < 6 by omega) hk]
    have ey : (((y >>> (Int32.ofNat k &&& 31)) &&& 1) = 0) ↔ r ≠ (-1) - Int32.ofNat k := by
      rcases hr with hr | ⟨g, hg, rfl⟩
      · rw [if_pos hr] at hy
        rw [hy]
        exact ⟨fun _ => okR_k hr hk, fun _ => b0_zero hk⟩
      · rw [if_neg (okR_n h6 hg), m1_of] at hy
        rw [hy, b0_one (show g < 6 by omega) hk, okR_i hk (show g < 6 by omega)]
    rw [ey]
    constructor
    · rintro ⟨a1, a2, a3⟩ j hj
      rw [addT_n] at hj
      rw [addT_F, addT_R]
      by_cases q : j = tn T
      · rw [if_pos q, if_pos q]; exact ⟨fun e => a2 e.symm, a3⟩
      · rw [if_neg q, if_neg q]; exact a1 j (by omega)
    · intro hh
      refine ⟨fun j hj => ?_, ?_, ?_⟩
      · have := hh j (by rw [addT_n]; omega)
        rw [addT_F, addT_R, if_neg (by omega), if_neg (by omega)] at this
        exact this
      · have := hh (tn T) (by rw [addT_n]; omega)
        rw [addT_F, if_pos rfl] at this
        exact fun e => this.1 e.symm
      · have := hh (tn T) (by rw [addT_n]; omega)
        rw [addT_R, if_pos rfl] at this
        exact this.2

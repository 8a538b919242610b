/-! givers: theory and the class's -/
def mixG (S : Nat) (x y : Nat → Int32) (f : Nat) : Int32 := if S.testBit f = true then y f else x f
def nvX (A : AS) (r : Nat) : Nat → Int32 := vX A r (aS A 3) 0
def gvB (A : AS) (row S must r : Nat) : Bool := thA A r (aS A 3) && (allF (fun f => !(must.testBit f && gp (nvX A r) f)) (bF (aB A)) 0 && (decide (bB (aB A) (nvX A r) = bN (aB A)) && decide (bB (aB A) (mixG S (nvX A row) (nvX A r)) = bN (aB A))))
def unF (A : AS) (row S r f : Nat) : Bool := !(S.testBit f) && !(decide (nvX A row f = nvX A r f))
def unN (A : AS) (row S r : Nat) : Nat := ctN (unF A row S r) (bF (aB A)) 0
def gvP (A : AS) (row S must r : Nat) : Option Nat := if r = row then none else if gvB A row S must r = true then some (unN A row S r) else none
/-- how many givers, their fewest unlike fields, the givers -/
def gvs (P : Nat → Option Nat) : Nat → Nat × Nat × (Nat → Nat)
  | 0 => (0, 7, fun _ => 0)
  | r + 1 => match P r with
    | none => gvs P r
    | some u => if u < (gvs P r).2.1 then (1, u, va_up (gvs P r).2.2 0 r) else if u = (gvs P r).2.1 then ((gvs P r).1 + 1, u, va_up (gvs P r).2.2 (gvs P r).1 r) else gvs P r
theorem gvs_n {P : Nat → Option Nat} {r : Nat} (e : P r = none) : gvs P (r + 1) = gvs P r := by
  show (match P r with
    | none => gvs P r
    | some u => if u < (gvs P r).2.1 then (1, u, va_up (gvs P r).2.2 0 r) else if u = (gvs P r).2.1 then ((gvs P r).1 + 1, u, va_up (gvs P r).2.2 (gvs P r).1 r) else gvs P r) = _
  rw [e]
theorem gvs_s {P : Nat → Option Nat} {r u : Nat} (e : P r = some u) : gvs P (r + 1) = if u < (gvs P r).2.1 then (1, u, va_up (gvs P r).2.2 0 r) else if u = (gvs P r).2.1 then ((gvs P r).1 + 1, u, va_up (gvs P r).2.2 (gvs P r).1 r) else gvs P r := by
  show (match P r with
    | none => gvs P r
    | some u => if u < (gvs P r).2.1 then (1, u, va_up (gvs P r).2.2 0 r) else if u = (gvs P r).2.1 then ((gvs P r).1 + 1, u, va_up (gvs P r).2.2 (gvs P r).1 r) else gvs P r) = _
  rw [e]
/-- of the givers among the first r -/
def GvI (P : Nat → Option Nat) (r : Nat) : Prop := ((gvs P r).1 = 0 ∧ (gvs P r).2.1 = 7) ∨ 1 ≤ (gvs P r).1 ∧ (gvs P r).1 ≤ r ∧ (gvs P r).2.1 ≤ 6 ∧ ∀ i : Nat, i < (gvs P r).1 → (gvs P r).2.2 i < r ∧ P ((gvs P r).2.2 i) = some (gvs P r).2.1
theorem gvs_I {P : Nat → Option Nat} (hP : ∀ r u : Nat, P r = some u → u ≤ 6) : ∀ r : Nat, GvI P r
  | 0 => Or.inl ⟨rfl, rfl⟩
  | r + 1 => by
    have ih := gvs_I hP r
    unfold GvI at *
    cases e : P r with
    | none =>
      rw [gvs_n e]
      rcases ih with ih | ⟨a, b, c, d⟩
      · exact Or.inl ih
      · exact Or.inr ⟨a, by omega, c, fun i hi => ⟨by have := (d i hi).1; omega, (d i hi).2⟩⟩
    | some u =>
      have u6 := hP r u e
      rw [gvs_s e]
      by_cases g : u < (gvs P r).2.1
      · rw [if_pos g]
        refine Or.inr ⟨Nat.le_refl _, by show 1 ≤ r + 1; omega, u6, fun i hi => ?_⟩
        have i0 : i = 0 := by
          have : i < 1 := hi
          omega
        subst i0
        show va_up (gvs P r).2.2 0 r 0 < r + 1 ∧ P (va_up (gvs P r).2.2 0 r 0) = some u
        rw [e_up, if_pos rfl]
        exact ⟨by omega, e⟩
      · rw [if_neg g]
        by_cases g2 : u = (gvs P r).2.1
        · rw [if_pos g2]
          rcases ih with ih | ⟨a, b, c, d⟩
          · omega
          · refine Or.inr ⟨by show 1 ≤ (gvs P r).1 + 1; omega, by show (gvs P r).1 + 1 ≤ r + 1; omega, u6, fun i hi => ?_⟩
            have hi : i < (gvs P r).1 + 1 := hi
            show va_up (gvs P r).2.2 (gvs P r).1 r i < r + 1 ∧ P (va_up (gvs P r).2.2 (gvs P r).1 r i) = some u
            rw [e_up]
            by_cases q : i = (gvs P r).1
            · rw [if_pos q]; exact ⟨by omega, e⟩
            · rw [if_neg q, g2]
              have := d i (by omega)
              exact ⟨by omega, this.2⟩
        · rw [if_neg g2]
          rcases ih with ih | ⟨a, b, c, d⟩
          · omega
          · exact Or.inr ⟨a, by omega, c, fun i hi => ⟨by have := (d i hi).1; omega, (d i hi).2⟩⟩
theorem gvP_6 {A : AS} (W : WA A) {row S must : Nat} (r u : Nat) (e : gvP A row S must r = some u) : u ≤ 6 := by
  have w6 := W.1.1
  unfold gvP at e
  by_cases g : r = row
  · rw [if_pos g] at e; cases e
  · rw [if_neg g] at e
    by_cases g2 : gvB A row S must r = true
    · rw [if_pos g2] at e
      have e2 : unN A row S r = u := Option.some.inj e
      have := ctN_le (unF A row S r) (bF (aB A)) 0
      unfold unN at e2
      omega
    · rw [if_neg g2] at e; cases e
theorem and_all : ∀ a : Nat, a < 64 → ∀ b : Nat, b < 64 → ((Int32.ofNat a &&& Int32.ofNat b) = 0 ↔ a &&& b = 0) := by decide +kernel
theorem nb_all : ∀ S : Nat, S < 64 → ∀ f : Nat, f < 6 → (((((Int32.ofNat S ^^^ (-1)) >>> (Int32.ofNat f &&& 31)) &&& 1) = 0) ↔ S.testBit f = true) := by decide +kernel
theorem must_N {x : Nat → Int32} {n must : Nat} (hn : n ≤ 6) (hm : must < 64) : ((Int32.ofNat (bits6 (gp x) n) &&& Int32.ofNat must) = 0) ↔ allF (fun f => !(must.testBit f && gp x f)) n 0 = true := by
  have p := p2_64 hn
  have l := bits6_lt (gp x) n
  rw [and_all _ (by omega) _ hm, allF_iff]
  constructor
  · intro h j h1 h2
    have e := congrArg (fun y => Nat.testBit y j) h
    have e : (bits6 (gp x) n &&& must).testBit j = Nat.testBit 0 j := e
    rw [Nat.testBit_and, bits6_t _ hn, decide_eq_true (show j < n by omega), Bool.true_and, Nat.zero_testBit] at e
    rw [Bool.and_comm, e]
    rfl
  · intro h
    apply Nat.eq_of_testBit_eq
    intro j
    rw [Nat.testBit_and, bits6_t _ hn, Nat.zero_testBit]
    by_cases hj : j < n
    · have e := h j (Nat.zero_le _) (by omega)
      rw [Bool.not_eq_true'] at e
      rw [decide_eq_true hj, Bool.true_and, Bool.and_comm]
      exact e
    · rw [decide_eq_false hj, Bool.false_and, Bool.false_and]
/-- changes in theirs, the trial, the givers alone -/
def Sg (c : Nat) (h h' : MHp) : Prop := Sc c h h' ∧ hI h' = hI h ∧ ∀ a : Nat, a ≠ c + 187 → a ≠ c + 188 → a ≠ c + 191 → hAI h' a = hAI h a
theorem Sg.rf {c : Nat} {h : MHp} : Sg c h h := ⟨Sc.rf, rfl, fun _ _ _ _ => rfl⟩
theorem Sg.tr {c : Nat} {h h1 h2 : MHp} (A : Sg c h h1) (B : Sg c h1 h2) : Sg c h h2 := ⟨A.1.tr B.1, B.2.1.trans A.2.1, fun a x y z => (B.2.2 a x y z).trans (A.2.2 a x y z)⟩
theorem c_putl {c S : Nat} : ∀ (q f fu : Nat) (h : MHp), CL c h → f + q = 6 → q < fu → ∃ h1 : MHp, mX5_putTheirs_l2 fu h (c + 185) (Int32.ofNat S) (Int32.ofNat f) = some h1 ∧ Sg c h h1 ∧ (∀ a : Nat, a ≠ c + 188 → hAI h1 a = hAI h a) ∧ ∀ j : Nat, hAI h1 (c + 188) j = if f ≤ j ∧ j < 6 then mixG S (hAI h (c + 186)) (hAI h (c + 187)) j else hAI h (c + 188) j := by
  intro q
  induction q with
  | zero =>
    intro f fu h L hf hfu
    obtain ⟨fu, rfl⟩ : ∃ g : Nat, fu = g + 1 := ⟨fu - 1, by omega⟩
    refine ⟨h, ?_, Sg.rf, fun _ _ => rfl, fun j => by rw [if_neg (by omega)]⟩
    rw [mX5_putTheirs_l2, if_pos (by rw [show (6 : Int32) = Int32.ofNat 6 from rfl, le_of (by omega) (by omega)]; omega)]
  | succ q ih =>
    intro f fu h L hf hfu
    obtain ⟨fu, rfl⟩ : ∃ g : Nat, fu = g + 1 := ⟨fu - 1, by omega⟩
    have K := lK185 L
    have bf := bad_n (k := f) (n := 6) (by omega) (by omega)
    have clf : (Int32.ofNat f).toNatClampNeg = f := cl_of (by omega)
    have n6 : ¬ (6 : Int32) ≤ Int32.ofNat f := by rw [show (6 : Int32) = Int32.ofNat 6 from rfl, le_of (by omega) (by omega)]; omega
    obtain ⟨X, hX⟩ : ∃ X : MHp, X = sAI h (c + 188) (va_up (hAI h (c + 188)) f (mixG S (hAI h (c + 186)) (hAI h (c + 187)) f)) := ⟨_, rfl⟩
    have SX : Sg c h X := by rw [hX]; exact ⟨Sc.AI 188 _ (by decide), rfl, fun a _ y _ => by rw [e_sAI, if_neg y]⟩
    have oX : ∀ a : Nat, a ≠ c + 188 → hAI X a = hAI h a := fun a ha => by rw [hX, e_sAI, if_neg ha]
    obtain ⟨h1, e1, S1, o1, r1⟩ := ih (f + 1) fu X (SX.1.CL L) (by omega) (by omega)
    refine ⟨h1, ?_, SX.tr S1, fun a ha => by rw [o1 a ha, oX a ha], fun j => ?_⟩
    · by_cases s : S.testBit f = true
      · rw [mX5_putTheirs_l2, if_neg n6, b_gR, if_pos K, lR185_4 L, if_neg (by rw [b0_N (by omega), s]; decide), b_gR, if_pos K, lR185_3 L, b_gAI, if_pos (lK187 L), lN187 L, if_neg bf, clf, mX5_putTheirs_b36, b_pAI, if_pos (lK188 L), lN188 L, if_neg bf, clf, s1_of, ← e1, hX]
        unfold mixG
        rw [if_pos s]
      · have s' : S.testBit f = false := by simpa using s
        rw [mX5_putTheirs_l2, if_neg n6, b_gR, if_pos K, lR185_4 L, if_pos (by rw [b0_N (by omega)]; exact s'), b_gR, if_pos K, lR185_2 L, b_gAI, if_pos (lK186 L), lN186 L, if_neg bf, clf, mX5_putTheirs_b36, b_pAI, if_pos (lK188 L), lN188 L, if_neg bf, clf, s1_of, ← e1, hX]
        unfold mixG
        rw [if_neg s]
    · rw [r1, oX _ (by omega), oX _ (by omega)]
      by_cases e : j = f
      · subst e
        rw [if_neg (by omega), hX, e_sAI, if_pos rfl, e_up, if_pos rfl, if_pos ⟨Nat.le_refl _, by omega⟩]
      · by_cases g : f + 1 ≤ j ∧ j < 6
        · rw [if_pos g, if_pos ⟨by omega, g.2⟩]
        · rw [if_neg g, if_neg (fun hh => g ⟨by omega, hh.2⟩), hX, e_sAI, if_pos rfl, e_up, if_neg e]
theorem p_put {c S : Nat} {h : MHp} (L : CL c h) : ∃ h1 : MHp, mX5_putTheirs h (c + 185) (Int32.ofNat S) = some h1 ∧ Sg c h h1 ∧ (∀ a : Nat, a ≠ c + 188 → hAI h1 a = hAI h a) ∧ ∀ j : Nat, j < 6 → hAI h1 (c + 188) j = mixG S (hAI h (c + 186)) (hAI h (c + 187)) j := by
  obtain ⟨h1, e1, S1, o1, r1⟩ := c_putl (S := S) 6 0 FUEL h L (by omega) (by unfold FUEL; omega)
  exact ⟨h1, e1, S1, o1, fun j hj => by rw [r1, if_pos ⟨Nat.zero_le _, hj⟩]⟩
/-- a row's values now, laid in an array of the class -/
theorem p_lay {c r k : Nat} {h : MHp} {A : AS} (C : CR c h A) (W : WA A) (hr : r < aN A 2) (hk : k = 186 ∨ k = 187) : ∃ g : Nat → Int32, mX9_load h (c + 56) (Int32.ofNat r) (aS A 3) 0 (some (c + k)) = some (sAI h (c + k) g) ∧ ∀ f : Nat, f < bF (aB A) → g f = nvX A r f := by
  obtain ⟨b, G⟩ := C.rg W
  have w6 := W.1.1
  have hb := (W.2.2.2.2.2.2.2.2.2.1 r hr).1
  refine ⟨_, g_load G hr (fil := 0) (by omega) (aS A 3) (k := k) (by omega), fun f hf => ?_⟩
  simp only [lD, if_pos (show f < 6 by omega)]
  exact lV_vX C W hr hf (by omega) hb
theorem p_canGive {c row S must r : Nat} {h : MHp} {A : AS} (C : CR c h A) (W : WA A) (hr : r < aN A 2) (hm : must < 64) (ho : ∀ f : Nat, f < bF (aB A) → hAI h (c + 186) f = nvX A row f) : ∃ h1 : MHp, mX5_canGive h (c + 185) (Int32.ofNat r) (Int32.ofNat S) (Int32.ofNat must) = some (if gvB A row S must r = true then 1 else 0, h1) ∧ Sg c h h1 ∧ (∀ a : Nat, a ≠ c + 187 → a ≠ c + 188 → hAI h1 a = hAI h a) ∧ (gvB A row S must r = true → ∀ f : Nat, f < bF (aB A) → hAI h1 (c + 187) f = nvX A r f) := by
  obtain ⟨b, G⟩ := C.rg W
  have L := G.1
  have K := lK185 L
  have td := C.td
  have w6 := W.1.1
  have w12 := W.1.2.1
  have e0 := p_isThere (A := A) L G.2.2.2.2.2.1 G.2.2.2.2.2.2 C.2.2.1.2.2.2.2.2.1 C.2.2.1.2.2.2.2.2.2.1 hr (aS A 3)
  by_cases g1 : thA A r (aS A 3) = true
  · obtain ⟨g, e1, eg⟩ := p_lay C W hr (k := 187) (Or.inr rfl)
    have e1' : mX9_load h (c + 56) (Int32.ofNat r) (aS A 3) 0 (some (c + 187)) = some (sAI h (c + 187) g) := e1
    obtain ⟨X, hX⟩ : ∃ X : MHp, X = sAI h (c + 187) g := ⟨_, rfl⟩
    rw [← hX] at e1'
    have SX : Sg c h X := by rw [hX]; exact ⟨Sc.AI 187 _ (by decide), rfl, fun a y _ _ => by rw [e_sAI, if_neg y]⟩
    have oX : ∀ a : Nat, a ≠ c + 187 → hAI X a = hAI h a := fun a ha => by rw [hX, e_sAI, if_neg ha]
    have X187 : ∀ f : Nat, f < bF (aB A) → hAI X (c + 187) f = nvX A r f := fun f hf => by rw [hX, e_sAI, if_pos rfl, eg f hf]
    have LX := SX.1.CL L
    obtain ⟨h1, e2, S2, o2, r2⟩ := p_put (S := S) LX
    have L1 := S2.1.CL LX
    have G1 := (G.sc SX.1).sc S2.1
    have a187 : ∀ f : Nat, f < bF (aB A) → hAI h1 (c + 187) f = nvX A r f := fun f hf => by rw [o2 _ (by omega), X187 f hf]
    have b187 : bB (aB A) (hAI h1 (c + 187)) = bB (aB A) (nvX A r) := bB_congr W.1 a187
    have b188 : bB (aB A) (hAI h1 (c + 188)) = bB (aB A) (mixG S (nvX A row) (nvX A r)) := bB_congr W.1 (fun f hf => by
      rw [r2 f (by omega)]
      unfold mixG
      rw [X187 f hf, oX _ (by omega), ho f hf])
    have em : mX1_gapsOf h1 b (some (c + 187)) = some (Int32.ofNat (bits6 (gp (nvX A r)) (bF (aB A)))) := by
      rw [g_gaps G1 (lK187 L1) (lN187 L1), ms_N _ w6, bits6_congr (q := gp (nvX A r)) _ (fun j hj => by
        unfold gp; rw [a187 j hj])]
    have er1 := g_rule G1 (lK187 L1) (lN187 L1)
    have er2 := g_rule G1 (lK188 L1) (lN188 L1)
    rw [b187] at er1
    rw [b188] at er2
    have l1 := bB_le (aB A) (nvX A r)
    have l2 := bB_le (aB A) (mixG S (nvX A row) (nvX A r))
    have i1 := G1.ib.1
    refine ⟨h1, ?_, SX.tr S2, fun a y z => by rw [o2 a z, oX a y], fun _ => a187⟩
    rw [mX5_canGive, b_gR, if_pos K, lR185_0 L, b_gR, if_pos K, lR185_0 L, b_gI, if_pos (lK56 L), td, b_rcv, if_pos (lK56 L), e0, o_bind, if_pos g1, if_neg n10, b_gR, if_pos K, lR185_0 L, b_gR, if_pos K, lR185_0 L, b_gI, if_pos (lK56 L), td, b_gR, if_pos K, lR185_3 L, b_rcv, if_pos (lK56 L), e1', o_bind, b_rcv, if_pos (lK185 LX), e2, o_bind, b_gR, if_pos (lK185 L1), lR185_0 L1, b_gR, if_pos (lK56 L1), G1.2.1, b_gR, if_pos (lK185 L1), lR185_3 L1, b_rcv, if_pos i1, em, o_bind]
    unfold gvB
    rw [g1, Bool.true_and]
    by_cases g2 : allF (fun f => !(must.testBit f && gp (nvX A r) f)) (bF (aB A)) 0 = true
    · rw [if_pos ((must_N w6 hm).mpr g2), g2, Bool.true_and, b_gR, if_pos (lK185 L1), lR185_0 L1, b_gR, if_pos (lK56 L1), G1.2.1, b_gR, if_pos (lK185 L1), lR185_3 L1, b_rcv, if_pos i1, er1, o_bind]
      by_cases g3 : bB (aB A) (nvX A r) = bN (aB A)
      · rw [if_neg (show ¬ bB (aB A) (nvX A r) < bN (aB A) by omega), if_pos rfl, decide_eq_true g3, Bool.true_and, b_gR, if_pos (lK185 L1), lR185_0 L1, b_gR, if_pos (lK56 L1), G1.2.1, b_gR, if_pos (lK185 L1), lR185_4 L1, b_rcv, if_pos i1, er2, o_bind]
        by_cases g4 : bB (aB A) (mixG S (nvX A row) (nvX A r)) = bN (aB A)
        · rw [if_neg (show ¬ bB (aB A) (mixG S (nvX A row) (nvX A r)) < bN (aB A) by omega), if_pos rfl, decide_eq_true g4, if_pos rfl]
        · rw [if_pos (show bB (aB A) (mixG S (nvX A row) (nvX A r)) < bN (aB A) by omega), if_neg (nm2_of (by omega)), decide_eq_false g4, if_neg (by decide)]
      · rw [if_pos (show bB (aB A) (nvX A r) < bN (aB A) by omega), if_neg (nm2_of (by omega)), decide_eq_false g3, Bool.false_and, if_neg (by decide)]
    · have g2' : allF (fun f => !(must.testBit f && gp (nvX A r) f)) (bF (aB A)) 0 = false := by simpa using g2
      rw [if_neg (fun hh => g2 ((must_N w6 hm).mp hh)), g2', Bool.false_and, if_neg (by decide)]
  · have g1' : thA A r (aS A 3) = false := by simpa using g1
    have gb : gvB A row S must r = false := by unfold gvB; rw [g1', Bool.false_and]
    refine ⟨h, ?_, Sg.rf, fun _ _ _ => rfl, fun hh => by rw [gb] at hh; cases hh⟩
    rw [mX5_canGive, b_gR, if_pos K, lR185_0 L, b_gR, if_pos K, lR185_0 L, b_gI, if_pos (lK56 L), td, b_rcv, if_pos (lK56 L), e0, o_bind, if_neg g1, if_pos rfl, gb, if_neg (by decide)]
theorem c_unl {c S row r : Nat} {h : MHp} {A : AS} (C : CR c h A) (W : WA A) (hS : S < 64) (ho : ∀ f : Nat, f < bF (aB A) → hAI h (c + 186) f = nvX A row f) (ht : ∀ f : Nat, f < bF (aB A) → hAI h (c + 187) f = nvX A r f) : ∀ (q f fu a : Nat), f + q = bF (aB A) → q < fu → mX5_countUnlike_l4 h fu (c + 185) (Int32.ofNat S ^^^ (-1)) (Int32.ofNat a) (Int32.ofNat f) = some (Int32.ofNat (a + ctN (unF A row S r) q f)) := by
  intro q
  obtain ⟨b, G⟩ := C.rg W
  have L := G.1
  have K := lK185 L
  have i1 := G.ib.1
  have nf := G.2.2.2.1.1
  have w6 := W.1.1
  induction q with
  | zero =>
    intro f fu a hf hfu
    obtain ⟨fu, rfl⟩ : ∃ g : Nat, fu = g + 1 := ⟨fu - 1, by omega⟩
    rw [mX5_countUnlike_l4, b_gR, if_pos K, lR185_0 L, b_gR, if_pos (lK56 L), G.2.1, b_gI, if_pos i1, nf, if_pos (by rw [le_of (by omega) (by omega)]; omega)]
    rfl
  | succ q ih =>
    intro f fu a hf hfu
    obtain ⟨fu, rfl⟩ : ∃ g : Nat, fu = g + 1 := ⟨fu - 1, by omega⟩
    have bf := bad_n (k := f) (n := 6) (by omega) (by omega)
    have clf : (Int32.ofNat f).toNatClampNeg = f := cl_of (by omega)
    have n1 : ¬ Int32.ofNat (bF (aB A)) ≤ Int32.ofNat f := by rw [le_of (by omega) (by omega)]; omega
    have n6 : ¬ (6 : Int32) ≤ Int32.ofNat f := by rw [show (6 : Int32) = Int32.ofNat 6 from rfl, le_of (by omega) (by omega)]; omega
    by_cases s : S.testBit f = true
    · have u : unF A row S r f = false := by unfold unF; rw [s]; rfl
      rw [mX5_countUnlike_l4, b_gR, if_pos K, lR185_0 L, b_gR, if_pos (lK56 L), G.2.1, b_gI, if_pos i1, nf, if_neg n1, if_neg n6, if_pos ((nb_all S hS f (by omega)).mpr s), mX5_countUnlike_b50, s1_of, ih (f + 1) fu a (by omega) (by omega), ctN_s, u, if_neg (by decide), Nat.zero_add]
    · have s' : S.testBit f = false := by simpa using s
      by_cases e : nvX A row f = nvX A r f
      · have u : unF A row S r f = false := by unfold unF; rw [s', decide_eq_true e]; rfl
        rw [mX5_countUnlike_l4, b_gR, if_pos K, lR185_0 L, b_gR, if_pos (lK56 L), G.2.1, b_gI, if_pos i1, nf, if_neg n1, if_neg n6, if_neg (fun hh => s ((nb_all S hS f (by omega)).mp hh)), b_gR, if_pos K, lR185_2 L, b_gAI, if_pos (lK186 L), lN186 L, if_neg bf, clf, ho f (by omega), b_gR, if_pos K, lR185_3 L, b_gAI, if_pos (lK187 L), lN187 L, if_neg bf, clf, ht f (by omega), if_pos e, mX5_countUnlike_b50, s1_of, ih (f + 1) fu a (by omega) (by omega), ctN_s, u, if_neg (by decide), Nat.zero_add]
      · have u : unF A row S r f = true := by unfold unF; rw [s', decide_eq_false e]; rfl
        rw [mX5_countUnlike_l4, b_gR, if_pos K, lR185_0 L, b_gR, if_pos (lK56 L), G.2.1, b_gI, if_pos i1, nf, if_neg n1, if_neg n6, if_neg (fun hh => s ((nb_all S hS f (by omega)).mp hh)), b_gR, if_pos K, lR185_2 L, b_gAI, if_pos (lK186 L), lN186 L, if_neg bf, clf, ho f (by omega), b_gR, if_pos K, lR185_3 L, b_gAI, if_pos (lK187 L), lN187 L, if_neg bf, clf, ht f (by omega), if_neg e, mX5_countUnlike_b50, s1_of, s1_of, ih (f + 1) fu (a + 1) (by omega) (by omega), ctN_s, u, if_pos rfl]
        congr 2
        omega
theorem p_unlike {c S row r : Nat} {h : MHp} {A : AS} (C : CR c h A) (W : WA A) (hS : S < 64) (ho : ∀ f : Nat, f < bF (aB A) → hAI h (c + 186) f = nvX A row f) (ht : ∀ f : Nat, f < bF (aB A) → hAI h (c + 187) f = nvX A r f) : mX5_countUnlike h (c + 185) (Int32.ofNat S ^^^ (-1)) = some (Int32.ofNat (unN A row S r)) := by
  have w6 := W.1.1
  have e := c_unl C W hS ho ht (bF (aB A)) 0 FUEL 0 (by omega) (by unfold FUEL; omega)
  rw [Nat.zero_add] at e
  exact e

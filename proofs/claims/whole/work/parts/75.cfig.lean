/-! the class's figures -/
theorem CR.rg {c : Nat} {h : MHp} {A : AS} (C : CR c h A) (W : WA A) : ∃ b : Nat, RG c b (aN A 2) h (aB A) := by
  obtain ⟨⟨b, s, L, x1, x2, x3, x4, x5⟩, y, z, w⟩ := C
  refine ⟨c + b, L, x2, by omega, x4, W.1, y.2.2.2.2.2.1, W.2.2.2.1⟩
theorem p_isThere {c n r : Nat} {h : MHp} {A : AS} (L : CL c h) (ht : hI h (c + 56) 6 = Int32.ofNat n) (hn : n ≤ 60) (h1 : hAI h (c + 110) = aA A 1) (h2 : hAI h (c + 111) = aA A 2) (hr : r < n) (d : Int32) : mX9_isThere h (c + 56) (Int32.ofNat r) d = some (if thA A r d = true then 1 else 0) := by
  have e1 := p_has1 L ht hn hr
  have n10 : ¬ ((1 : Int32) = 0) := by decide
  by_cases g1 : d < aA A 1 r
  · simp (disch := omega) only [mX9_isThere, lK56 L, lR56_0 L, lK110 L, lN110 L, e1, n10, cl_of, h1, g1, o_bind, o_map, b_rcv, b_gI, b_gL, b_gR, b_gN, b_pI, b_pL, b_pR, b_gAI, b_gAL, b_gAR, b_pAI, b_pAL, bad_of, bad_l, Bool.false_eq_true, ↓reduceIte, Int32.reduceLT, Int32.reduceLE, Int32.reduceToNatClampNeg, Int32.reduceOfNat, Int32.reduceAdd, Int32.reduceSub, Int32.reduceMul, Nat.reduceAdd, Nat.reduceMul, Nat.reduceEqDiff]
    simp [thA, le_y g1]
  · by_cases g2 : sn (aA A 2 r) d = true
    · simp (disch := omega) only [mX9_isThere, lK56 L, lR56_0 L, lK110 L, lN110 L, lR56_1 L, lK111 L, lN111 L, e1, n10, cl_of, h1, h2, g1, p_since, g2, o_bind, o_map, b_rcv, b_gI, b_gL, b_gR, b_gN, b_pI, b_pL, b_pR, b_gAI, b_gAL, b_gAR, b_pAI, b_pAL, bad_of, bad_l, Bool.false_eq_true, ↓reduceIte, Int32.reduceLT, Int32.reduceLE, Int32.reduceToNatClampNeg, Int32.reduceOfNat, Int32.reduceAdd, Int32.reduceSub, Int32.reduceMul, Nat.reduceAdd, Nat.reduceMul, Nat.reduceEqDiff]
      simp [thA, g2]
    · simp (disch := omega) only [mX9_isThere, lK56 L, lR56_0 L, lK110 L, lN110 L, lR56_1 L, lK111 L, lN111 L, e1, n10, cl_of, h1, h2, g1, p_since, g2, o_bind, o_map, b_rcv, b_gI, b_gL, b_gR, b_gN, b_pI, b_pL, b_pR, b_gAI, b_gAL, b_gAR, b_pAI, b_pAL, bad_of, bad_l, Bool.false_eq_true, ↓reduceIte, Int32.reduceLT, Int32.reduceLE, Int32.reduceToNatClampNeg, Int32.reduceOfNat, Int32.reduceAdd, Int32.reduceSub, Int32.reduceMul, Nat.reduceAdd, Nat.reduceMul, Nat.reduceEqDiff]
      simp [thA, g2, le_n g1]
theorem rV_vA {c r f fil : Nat} {h : MHp} {A : AS} (C2 : CR2 c h A) (C3 : CR3 c h A) (W : WA A) (hr : r < aN A 2) (hf : f < bF (aB A)) (hfil : fil < 5) (d : Int32) : rV c h r f d fil = vA A r f d fil := by
  obtain ⟨-, -, -, -, -, -, -, z3, z4, -, z6, -⟩ := C2
  obtain ⟨w1, -⟩ := C3
  obtain ⟨w2, w3⟩ := w1 r hr f hf
  have wr := W.2.2.2.2.2.2.2.2.2.1 r hr
  have wf := (wr.2.2.2.2.2.2.2.2.2.2.1 f hf).2.2.1
  simp only [rV, vA, z3, z4, z6]
  have e5 : aA A 6 (r * 6 + f) = -1 → (if sn (aA A 4 r) d = true then hAI h (c + 117) (fil * 360 + (r * 6 + f)) else -1) = (if sn (aA A 4 r) d = true then aA A 8 (6 * (5 * r + fil) + f) else -1) := by
    intro e
    by_cases q : sn (aA A 4 r) d = true
    · have q2 : aA A 4 r ≠ -2 := by
        intro e; simp [sn, e] at q
      rw [if_pos q, if_pos q, w3 q2 e fil hfil]
    · rw [if_neg q, if_neg q]
  by_cases g1 : sn (aA A 3 r) d = true
  · have q2 : aA A 3 r ≠ -2 := by
      intro e; simp [sn, e] at g1
    have e2 := w2 q2
    by_cases g2 : mb (aA A 9 r) f = true
    · rw [if_pos g2] at e2
      have e3 := n1_of (wf q2 g2).2.1
      simp only [g1, g2, e2, if_true, Bool.and_self, if_neg e3]
    · rw [if_neg g2] at e2
      simp only [g1, e2, if_true, Bool.true_and, if_neg g2]
      by_cases g3 : aA A 6 (r * 6 + f) = -1
      · rw [if_pos g3, if_pos g3]; exact e5 g3
      · rw [if_neg g3, if_neg g3]
  · simp only [if_neg g1]
    have g4 : (sn (aA A 3 r) d && mb (aA A 9 r) f) = false := by simp [g1]
    simp only [g4, Bool.false_eq_true, if_false]
    by_cases g3 : aA A 6 (r * 6 + f) = -1
    · rw [if_pos g3, if_pos g3]; exact e5 g3
    · rw [if_neg g3, if_neg g3]
theorem thA_b {A : AS} {r : Nat} {d : Int32} (h : thA A r d = true) : aA A 1 r ≤ d := by
  simp only [thA, Bool.and_eq_true, decide_eq_true_eq] at h
  exact h.1
theorem okA_b {A : AS} {r fil : Nat} {d : Int32} (h : okA A r d fil = true) : thA A r d = true := by
  simp only [okA, Bool.and_eq_true] at h
  exact h.1
theorem lV_vX {c r f fil : Nat} {h : MHp} {A : AS} (C : CR c h A) (W : WA A) (hr : r < aN A 2) (hf : f < bF (aB A)) (hfil : fil < 5) {d : Int32} (hd : aA A 1 r ≤ d) : lV c h (bF (aB A)) r d fil f = vX A r d fil f := by
  have e : hAI h (c + 110) = aA A 1 := C.2.2.1.2.2.2.2.2.1
  simp only [lV, e, hf, hd, true_and, if_true, vX]
  exact rV_vA C.2.2.1 C.2.2.2 W hr hf hfil d
theorem p_looksAt {c r fil : Nat} {h : MHp} {A : AS} (C : CR c h A) (W : WA A) (hr : r < aN A 2) (hfil : fil < 5) (d : Int32) : ∃ h' : MHp, mX2_looksAt h (c + 192) (Int32.ofNat r) d (Int32.ofNat fil) = some (if okA A r d fil = true then 1 else 0, h') ∧ Sc c h h' ∧ (okA A r d fil = true → ∀ f : Nat, f < bF (aB A) → hAI h' (c + 193) f = vX A r d fil f) := by
  obtain ⟨b, G⟩ := C.rg W
  have L := G.1
  have e0 := p_isThere (A := A) L G.2.2.2.2.2.1 G.2.2.2.2.2.2 C.2.2.1.2.2.2.2.2.1 C.2.2.1.2.2.2.2.2.2.1 hr d
  by_cases g1 : thA A r d = true
  · have e1 := g_load G hr hfil d (k := 193) (by omega)
    have S : Sc c h (sAI h (c + 193) (lD c h (bF (aB A)) r d fil (hAI h (c + 193)))) := Sc.AI 193 _ (by decide)
    have hx : hAI (sAI h (c + 193) (lD c h (bF (aB A)) r d fil (hAI h (c + 193)))) (c + 193) = lD c h (bF (aB A)) r d fil (hAI h (c + 193)) := by rw [e_sAI, if_pos rfl]
    have G2 := G.sc S
    revert e1 S hx G2
    generalize sAI h (c + 193) (lD c h (bF (aB A)) r d fil (hAI h (c + 193))) = h2
    intro e1 S hx G2
    have L2 := G2.1
    have e3 := g_rule G2 (k := c + 193) (lK193 L2) (lN193 L2)
    have xe : ∀ f : Nat, f < bF (aB A) → lD c h (bF (aB A)) r d fil (hAI h (c + 193)) f = vX A r d fil f := fun f hf => by
      have := W.1.1
      simp only [lD, if_pos (show f < 6 by omega)]
      exact lV_vX C W hr hf hfil (thA_b g1)
    rw [hx, bB_congr W.1 xe] at e3
    have j1 := G2.2.1
    have j2 := G2.ib.1
    have n10 : ¬ ((1 : Int32) = 0) := by decide
    refine ⟨h2, ?_, S, fun _ f hf => by rw [hx]; exact xe f hf⟩
    have hb := bB_le (aB A) (vX A r d fil)
    have hb2 := W.1.2.1
    by_cases g2 : bB (aB A) (vX A r d fil) = bN (aB A)
    · have g3 : ¬ (bB (aB A) (vX A r d fil) < bN (aB A)) := by omega
      rw [if_neg g3] at e3
      simp (disch := omega) only [mX2_looksAt, lK192 L, lR192_0 L, lR192_1 L, lK56 L, e0, g1, n10, e1, lK192 L2, lR192_0 L2, lR192_1 L2, lK56 L2, j1, j2, e3, o_bind, o_map, b_rcv, b_gI, b_gL, b_gR, b_gN, b_pI, b_pL, b_pR, b_gAI, b_gAL, b_gAR, b_pAI, b_pAL, bad_of, bad_l, Bool.false_eq_true, ↓reduceIte, Int32.reduceLT, Int32.reduceLE, Int32.reduceToNatClampNeg, Int32.reduceOfNat, Int32.reduceAdd, Int32.reduceSub, Int32.reduceMul, Nat.reduceAdd, Nat.reduceMul, Nat.reduceEqDiff]
      simp [okA, g1, g2]
    · have g3 : bB (aB A) (vX A r d fil) < bN (aB A) := by omega
      rw [if_pos g3] at e3
      have n2 : ¬ (Int32.ofNat (bB (aB A) (vX A r d fil)) = -2) := by
        rw [← Int32.toInt_inj, ti_of (by omega)]
        have : (-2 : Int32).toInt = -2 := rfl
        rw [this]; omega
      simp (disch := omega) only [mX2_looksAt, lK192 L, lR192_0 L, lR192_1 L, lK56 L, e0, g1, n10, e1, lK192 L2, lR192_0 L2, lR192_1 L2, lK56 L2, j1, j2, e3, n2, o_bind, o_map, b_rcv, b_gI, b_gL, b_gR, b_gN, b_pI, b_pL, b_pR, b_gAI, b_gAL, b_gAR, b_pAI, b_pAL, bad_of, bad_l, Bool.false_eq_true, ↓reduceIte, Int32.reduceLT, Int32.reduceLE, Int32.reduceToNatClampNeg, Int32.reduceOfNat, Int32.reduceAdd, Int32.reduceSub, Int32.reduceMul, Nat.reduceAdd, Nat.reduceMul, Nat.reduceEqDiff]
      simp [okA, g2]
  · refine ⟨h, ?_, Sc.rf, fun hh => absurd (okA_b hh) g1⟩
    rw [if_neg g1] at e0
    unfold mX2_looksAt
    rw [b_gR, if_pos (lK192 L), lR192_0 L, b_rcv, if_pos (lK56 L), e0, o_bind, if_pos rfl]
    simp [okA, g1]
/-! the cell of a row's values -/
theorem cell_inj {cs i j i' j' : Nat} (hj : j < cs) (hj' : j' < cs) (e : i * cs + j = i' * cs + j') : i = i' ∧ j = j' := by
  have h1 : (i * cs + j) / cs = i := by
    rw [Nat.mul_comm, Nat.mul_add_div (by omega), Nat.div_eq_of_lt hj, Nat.add_zero]
  have h2 : (i' * cs + j') / cs = i' := by
    rw [Nat.mul_comm, Nat.mul_add_div (by omega), Nat.div_eq_of_lt hj', Nat.add_zero]
  have h3 : i = i' := by rw [← h1, ← h2, e]
  subst h3
  exact ⟨rfl, by omega⟩
theorem cell_lt {ls cs i j : Nat} (hi : i < ls) (hj : j < cs) : i * cs + j < ls * cs := by
  have : (i + 1) * cs ≤ ls * cs := Nat.mul_le_mul_right cs hi
  rw [Nat.add_mul] at this
  omega
theorem ofNat_mul_add (i cs j : Nat) : Int32.ofNat i * Int32.ofNat cs + Int32.ofNat j = Int32.ofNat (i * cs + j) := by simp
/-- a row's value is a gap or a value of the field -/
def inV (B : Bk) (x : Nat → Int32) : Prop := ∀ f : Nat, f < bF B → x f = -1 ∨ ∃ u : Nat, u ≤ bT B f ∧ x f = Int32.ofNat u
/-- where a row's values are in one direction of a plan -/
def dV (o : Option Nat) (x : Nat → Int32) : Int32 := match o with
  | none => 0
  | some f => x f
theorem dV_in {B : Bk} {x : Nat → Int32} {o : Option Nat} (V : inV B x) (W : WO (bF B) o) : dV o x = -1 ∨ ∃ u : Nat, u < vs B o ∧ dV o x = Int32.ofNat u := by
  cases o with
  | none => exact Or.inr ⟨0, Nat.one_pos, rfl⟩
  | some f =>
    rcases V f (W f rfl) with h | ⟨u, h1, h2⟩
    · exact Or.inl h
    · exact Or.inr ⟨u, by show u < bT B f + 1; omega, h2⟩
theorem oq_dV {B : Bk} {x : Nat → Int32} {o : Option Nat} {i : Nat} (hi : i < vs B o) : oq o (fun f => decide (x f = Int32.ofNat i)) = decide (dV o x = Int32.ofNat i) := by
  cases o with
  | none =>
    have : i = 0 := by have : i < 1 := hi; omega
    subst this
    rfl
  | some f => rfl
theorem vs_le {B : Bk} (W : WB B) {o : Option Nat} (h : WO (bF B) o) : 1 ≤ vs B o ∧ vs B o ≤ 10 := by
  cases o with
  | none => exact ⟨Nat.le_refl _, by show 1 ≤ 10; omega⟩
  | some f =>
    have := W.2.2.1 f (h f rfl)
    show 1 ≤ bT B f + 1 ∧ bT B f + 1 ≤ 10
    omega
theorem vs_mul {B : Bk} (W : WB B) {o o' : Option Nat} (h : WO (bF B) o) (h' : WO (bF B) o') : vs B o * vs B o' ≤ 100 := by
  have h1 := vs_le W h
  have h2 := vs_le W h'
  calc vs B o * vs B o' ≤ 10 * 10 := Nat.mul_le_mul h1.2 h2.2
    _ = 100 := rfl
/-- the cell of values, or none -/
def clA2 (B : Bk) (P : Pl) (x : Nat → Int32) : Int32 := if dV (pI1 P) x = -1 ∨ dV (pI2 P) x = -1 ∨ oq (pS P) (fun f => decide (x f ≠ -1)) = false ∨ tH (pW P) x = false then -1 else dV (pI1 P) x * Int32.ofNat (vs B (pI2 P)) + dV (pI2 P) x
theorem clA2_iff {B : Bk} {P : Pl} {x : Nat → Int32} (W : WB B) (WP0 : WP B P) (V : inV B x) {i j : Nat} (hi : i < vs B (pI1 P)) (hj : j < vs B (pI2 P)) : (clA2 B P x = Int32.ofNat (i * vs B (pI2 P) + j)) ↔ inP P x (Int32.ofNat i) (Int32.ofNat j) = true := by
  obtain ⟨w1, w2, w3, w4, w5⟩ := WP0
  have hm := vs_mul W w2 w3
  have hc := cell_lt hi hj
  unfold inP clA2
  rw [oq_dV hi, oq_dV hj]
  have b1 := vs_le W w2
  have b2 := vs_le W w3
  rcases dV_in V w2 with h1 | ⟨u, hu, h1⟩
  · rw [h1, if_pos (Or.inl rfl)]
    have e1 : ¬ (-1 : Int32) = Int32.ofNat (i * vs B (pI2 P) + j) := fun e => nm_of (by omega) e.symm
    have e2 : ¬ (-1 : Int32) = Int32.ofNat i := fun e => nm_of (by omega) e.symm
    simp only [e1, e2, decide_false, Bool.false_and, Bool.and_false, Bool.false_eq_true]
  · rcases dV_in V w3 with h2 | ⟨v, hv, h2⟩
    · rw [h2, if_pos (Or.inr (Or.inl rfl))]
      have e1 : ¬ (-1 : Int32) = Int32.ofNat (i * vs B (pI2 P) + j) := fun e => nm_of (by omega) e.symm
      have e2 : ¬ (-1 : Int32) = Int32.ofNat j := fun e => nm_of (by omega) e.symm
      simp only [e1, e2, decide_false, Bool.false_and, Bool.and_false, Bool.false_eq_true]
    · rw [h1, h2]
      have n1 := nm_of (k := u) (by omega)
      have n2 := nm_of (k := v) (by omega)
      have hc2 := cell_lt hu hv
      have e1 : ¬ (-1 : Int32) = Int32.ofNat (i * vs B (pI2 P) + j) := fun e => nm_of (by omega) e.symm
      have e3 : (Int32.ofNat u = Int32.ofNat i) = (u = i) := eq_of (by omega) (by omega)
      have e4 : (Int32.ofNat v = Int32.ofNat j) = (v = j) := eq_of (by omega) (by omega)
      have e5 : (Int32.ofNat (u * vs B (pI2 P) + v) = Int32.ofNat (i * vs B (pI2 P) + j)) = (u = i ∧ v = j) := by
        rw [eq_of (by omega) (by omega)]
        apply propext
        constructor
        · intro e; exact cell_inj hv hj e
        · rintro ⟨rfl, rfl⟩; rfl
      rw [ofNat_mul_add]
      simp only [Bool.and_eq_true, decide_eq_true_eq, e3, e4]
      by_cases s1 : oq (pS P) (fun f => decide (x f ≠ -1)) = true
      · by_cases t1 : tH (pW P) x = true
        · rw [if_neg (by simp only [n1, n2, s1, t1, Bool.true_eq_false, or_self, not_false_eq_true]), e5]
          simp only [s1, t1, true_and, and_true]
        · rw [if_pos (Or.inr (Or.inr (Or.inr (by simpa using t1))))]
          simp only [t1, e1, false_and, Bool.false_eq_true]
      · rw [if_pos (Or.inr (Or.inr (Or.inl (by simpa using s1))))]
        simp only [s1, e1, and_false, Bool.false_eq_true]
theorem clA2_in {B : Bk} {P : Pl} {x : Nat → Int32} (WP0 : WP B P) (V : inV B x) : clA2 B P x = -1 ∨ ∃ i j : Nat, i < vs B (pI1 P) ∧ j < vs B (pI2 P) ∧ clA2 B P x = Int32.ofNat (i * vs B (pI2 P) + j) := by
  obtain ⟨w1, w2, w3, w4, w5⟩ := WP0
  by_cases q : dV (pI1 P) x = -1 ∨ dV (pI2 P) x = -1 ∨ oq (pS P) (fun f => decide (x f ≠ -1)) = false ∨ tH (pW P) x = false
  · left; unfold clA2; rw [if_pos q]
  · right
    have q2 := q
    rw [not_or, not_or] at q
    obtain ⟨q3, q4, -⟩ := q
    rcases dV_in V w2 with h1 | ⟨u, hu, h1⟩
    · exact absurd h1 q3
    · rcases dV_in V w3 with h2 | ⟨v, hv, h2⟩
      · exact absurd h2 q4
      · exact ⟨u, v, hu, hv, by unfold clA2; rw [if_neg q2, h1, h2, ofNat_mul_add]⟩

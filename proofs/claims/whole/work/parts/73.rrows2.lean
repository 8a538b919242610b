/-! the reference's rows: loading, being there, being in a cell -/
def RQ (m b n : Nat) (h : MHp) (A : AS) : Prop := RV m n h A ∧ hR h m 4 = some b ∧ RB (m + 26) h b (aB A) ∧ WB (aB A) ∧ hI h m 18 = Int32.ofNat n ∧ n ≤ 60 ∧ hI h m 19 = aS A 3 ∧ hAI h (m + 12) = aA A 5
theorem RQ.sc {m b n : Nat} {h h' : MHp} {A : AS} (S : Rs m h h') (C : RQ m b n h A) : RQ m b n h' A := by
  obtain ⟨v, c1, c2, c3, c4, c5, c6, c7⟩ := C
  refine ⟨v.sc S, by rw [S.2.2.1]; exact c1, c2.ag (S.out (Or.inr (by omega))) (by rw [S.2.2.2.2.1]; omega), c3, ?_, c5, ?_, ?_⟩
  · rw [S.2.2.2.2.2.1 18 (by decide)]; exact c4
  · rw [S.2.2.2.2.2.1 19 (by decide)]; exact c6
  · rw [S.cell (a := 12) (by decide)]; exact c7
def rD (A : AS) (r : Nat) (d : Int32) (fil : Nat) (g : Nat → Int32) (j : Nat) : Int32 := if j < bF (aB A) then vA A r j d fil else g j
theorem q_loads_l3 {m b n r fil k : Nat} {h : MHp} {A : AS} (Q : RQ m b n h A) (hr : r < n) (hfil : fil < 5) (d : Int32) (hk : k = 13 ∨ k = 14 ∨ k = 15) (hkk : hK h (m + k) = 20) (hkn : hN h (m + k) = 6) :
    ∀ (q fu i : Nat) (g : Nat → Int32), i + q = bF (aB A) → q < fu → mX16_loads_l3 fu (sAI h (m + k) g) m (Int32.ofNat r) d (Int32.ofNat fil) (some (m + k)) (Int32.ofNat i) = some (sAI h (m + k) (fun j => if i ≤ j ∧ j < bF (aB A) then vA A r j d fil else g j)) := by
  intro q
  have L := Q.1.1
  have e0 := qK0 L
  obtain ⟨V, c1, c2, c3, c4, c5, c6, c7⟩ := id Q
  have i1 := c2.1.1
  have i2 := c2.2.1
  have w1 := c3.1
  induction q with
  | zero =>
    intro fu i g hi hfu
    obtain ⟨fu, rfl⟩ : ∃ g : Nat, fu = g + 1 := ⟨fu - 1, by omega⟩
    have e : (fun j => if i ≤ j ∧ j < bF (aB A) then vA A r j d fil else g j) = g := by
      funext j; rw [if_neg (by omega)]
    rw [e]
    simp (disch := first | assumption | omega | (simp (disch := omega) only [Int32.lt_iff_toInt_lt, Int32.le_iff_toInt_le, ← Int32.toInt_inj, ti_of, Int32.reduceToInt]; omega)) only [mX16_loads_l3, e_K_sAI, e_R_sAI, e_I_sAI, e0, c1, i1, i2, o_bind, o_map, b_rcv, b_gI, b_gL, b_gR, b_gN, b_pI, b_pL, b_pR, b_gAI, b_gAL, b_gAR, b_pAI, b_pAL, bad_of, bad_l, Bool.false_eq_true, ↓reduceIte, Int32.reduceLT, Int32.reduceLE, Int32.reduceToNatClampNeg, Int32.reduceOfNat, Int32.reduceAdd, Int32.reduceSub, Int32.reduceMul, Nat.reduceAdd, Nat.reduceMul, Nat.reduceEqDiff, if_pos, if_neg]
  | succ q ih =>
    intro fu i g hi hfu
    obtain ⟨fu, rfl⟩ : ∃ g : Nat, fu = g + 1 := ⟨fu - 1, by omega⟩
    have e1 := q_valueOf (h := sAI h (m + k) g) (d := d) (V.sc (Rs.AI k g (by rcases hk with rfl | rfl | rfl <;> decide))) c5 hr (show i < 6 by omega) hfil
    have e2 := ih fu (i + 1) (va_up g i (vA A r i d fil)) (by omega) (by omega)
    have e3 : (fun j => if i + 1 ≤ j ∧ j < bF (aB A) then vA A r j d fil else va_up g i (vA A r i d fil) j) = (fun j => if i ≤ j ∧ j < bF (aB A) then vA A r j d fil else g j) := by
      funext j
      by_cases q : j = i
      · subst q; rw [if_neg (by omega), if_pos (by omega), va_up, if_pos rfl]
      · by_cases q2 : i + 1 ≤ j ∧ j < bF (aB A)
        · rw [if_pos q2, if_pos (by omega)]
        · rw [if_neg q2, if_neg (by omega), va_up, if_neg q]
    rw [e3] at e2
    simp (disch := first | assumption | omega | (simp (disch := omega) only [Int32.lt_iff_toInt_lt, Int32.le_iff_toInt_le, ← Int32.toInt_inj, ti_of, Int32.reduceToInt]; omega)) only [mX16_loads_l3, e_K_sAI, e_N_sAI, e_R_sAI, e_I_sAI, e0, c1, i1, i2, hkk, hkn, e1, cl_of, s1_of, e_sAI, e_AI2, e2, o_bind, o_map, b_rcv, b_gI, b_gL, b_gR, b_gN, b_pI, b_pL, b_pR, b_gAI, b_gAL, b_gAR, b_pAI, b_pAL, bad_of, bad_l, Bool.false_eq_true, ↓reduceIte, Int32.reduceLT, Int32.reduceLE, Int32.reduceToNatClampNeg, Int32.reduceOfNat, Int32.reduceAdd, Int32.reduceSub, Int32.reduceMul, Nat.reduceAdd, Nat.reduceMul, Nat.reduceEqDiff, if_pos, if_neg]
theorem q_loads {m b n r fil k : Nat} {h : MHp} {A : AS} (Q : RQ m b n h A) (hr : r < n) (hfil : fil < 5) (d : Int32) (hk : k = 13 ∨ k = 14 ∨ k = 15) : mX16_loads h m (Int32.ofNat r) d (Int32.ofNat fil) (some (m + k)) = some (sAI h (m + k) (rD A r d fil (hAI h (m + k)))) := by
  have L := Q.1.1
  have z : hK h (m + k) = 20 ∧ hN h (m + k) = 6 := by
    rcases hk with rfl | rfl | rfl
    · exact ⟨qK13 L, qN13 L⟩
    · exact ⟨qK14 L, qN14 L⟩
    · exact ⟨qK15 L, qN15 L⟩
  have w1 := Q.2.2.2.1.1
  have e := q_loads_l3 Q hr hfil d hk z.1 z.2 (bF (aB A)) FUEL 0 (hAI h (m + k)) (by omega) (by unfold FUEL; omega)
  rw [e_AIself] at e
  have e3 : (fun j => if 0 ≤ j ∧ j < bF (aB A) then vA A r j d fil else hAI h (m + k) j) = rD A r d fil (hAI h (m + k)) := by
    funext j; simp [rD]
  rw [e3] at e
  exact e
def thA (A : AS) (r : Nat) (d : Int32) : Bool := decide (aA A 1 r ≤ d) && !(sn (aA A 2 r) d)
theorem q_isThere {m n r : Nat} {h : MHp} {A : AS} (V : RV m n h A) (hn : n ≤ 60) (hr : r < n) (d : Int32) : mX16_isThere h m (Int32.ofNat r) d = some (if thA A r d = true then 1 else 0) := by
  obtain ⟨L, -, -, -, c4, -, c6⟩ := V
  obtain ⟨r1, -, -, r4, -, -⟩ := c6 r hr
  by_cases g1 : d < aA A 1 r
  · simp (disch := first | assumption | omega | (simp (disch := omega) only [Int32.lt_iff_toInt_lt, Int32.le_iff_toInt_le, ← Int32.toInt_inj, ti_of, Int32.reduceToInt]; omega)) only [mX16_isThere, qK0 L, qR23 L, qK7 L, qN7 L, cl_of, c4, g1, o_bind, o_map, b_rcv, b_gI, b_gL, b_gR, b_gN, b_pI, b_pL, b_pR, b_gAI, b_gAL, b_gAR, b_pAI, b_pAL, bad_of, bad_l, Bool.false_eq_true, ↓reduceIte, Int32.reduceLT, Int32.reduceLE, Int32.reduceToNatClampNeg, Int32.reduceOfNat, Int32.reduceAdd, Int32.reduceSub, Int32.reduceMul, Nat.reduceAdd, Nat.reduceMul, Nat.reduceEqDiff, if_pos, if_neg]
    simp [thA, le_y g1]
  · by_cases g2 : aA A 2 r = -2
    · rw [g2] at r1
      simp (disch := first | assumption | omega | (simp (disch := omega) only [Int32.lt_iff_toInt_lt, Int32.le_iff_toInt_le, ← Int32.toInt_inj, ti_of, Int32.reduceToInt]; omega)) only [mX16_isThere, qK0 L, qR23 L, qK7 L, qN7 L, cl_of, c4, g1, qR24 L, qK8 L, qN8 L, r1, un22, o_bind, o_map, b_rcv, b_gI, b_gL, b_gR, b_gN, b_pI, b_pL, b_pR, b_gAI, b_gAL, b_gAR, b_pAI, b_pAL, bad_of, bad_l, Bool.false_eq_true, ↓reduceIte, Int32.reduceLT, Int32.reduceLE, Int32.reduceToNatClampNeg, Int32.reduceOfNat, Int32.reduceAdd, Int32.reduceSub, Int32.reduceMul, Nat.reduceAdd, Nat.reduceMul, Nat.reduceEqDiff, if_pos, if_neg]
      simp [thA, le_n g1, sn, g2]
    · rw [un2_n g2] at r1
      have g9 := n1_of (r4 g2)
      by_cases g3 : aA A 2 r ≤ d
      · simp (disch := first | assumption | omega | (simp (disch := omega) only [Int32.lt_iff_toInt_lt, Int32.le_iff_toInt_le, ← Int32.toInt_inj, ti_of, Int32.reduceToInt]; omega)) only [mX16_isThere, qK0 L, qR23 L, qK7 L, qN7 L, cl_of, c4, g1, qR24 L, qK8 L, qN8 L, r1, g9, g3, o_bind, o_map, b_rcv, b_gI, b_gL, b_gR, b_gN, b_pI, b_pL, b_pR, b_gAI, b_gAL, b_gAR, b_pAI, b_pAL, bad_of, bad_l, Bool.false_eq_true, ↓reduceIte, Int32.reduceLT, Int32.reduceLE, Int32.reduceToNatClampNeg, Int32.reduceOfNat, Int32.reduceAdd, Int32.reduceSub, Int32.reduceMul, Nat.reduceAdd, Nat.reduceMul, Nat.reduceEqDiff, if_pos, if_neg]
        simp [thA, le_n g1, sn, g2, g3]
      · simp (disch := first | assumption | omega | (simp (disch := omega) only [Int32.lt_iff_toInt_lt, Int32.le_iff_toInt_le, ← Int32.toInt_inj, ti_of, Int32.reduceToInt]; omega)) only [mX16_isThere, qK0 L, qR23 L, qK7 L, qN7 L, cl_of, c4, g1, qR24 L, qK8 L, qN8 L, r1, g9, g3, o_bind, o_map, b_rcv, b_gI, b_gL, b_gR, b_gN, b_pI, b_pL, b_pR, b_gAI, b_gAL, b_gAR, b_pAI, b_pAL, bad_of, bad_l, Bool.false_eq_true, ↓reduceIte, Int32.reduceLT, Int32.reduceLE, Int32.reduceToNatClampNeg, Int32.reduceOfNat, Int32.reduceAdd, Int32.reduceSub, Int32.reduceMul, Nat.reduceAdd, Nat.reduceMul, Nat.reduceEqDiff, if_pos, if_neg]
        simp [thA, le_n g1, sn, g2, g3]
def vX (A : AS) (r : Nat) (d : Int32) (fil : Nat) (f : Nat) : Int32 := vA A r f d fil
theorem bB_rD {A : AS} {r fil : Nat} {d : Int32} {g : Nat → Int32} (W : WB (aB A)) : bB (aB A) (rD A r d fil g) = bB (aB A) (vX A r d fil) :=
  bB_congr W (fun f hf => by simp only [rD, vX, if_pos hf])
def oq (o : Option Nat) (q : Nat → Bool) : Bool := match o with
  | none => true
  | some f => q f
theorem oq_n (q : Nat → Bool) : oq none q = true := (rfl)
theorem oq_s (f : Nat) (q : Nat → Bool) : oq (some f) q = q f := (rfl)
/-- whether values are in a cell -/
def inP (P : Pl) (x : Nat → Int32) (i j : Int32) : Bool := tH (pW P) x && (oq (pI1 P) (fun f => decide (x f = i)) && (oq (pI2 P) (fun f => decide (x f = j)) && oq (pS P) (fun f => decide (x f ≠ -1))))
theorem inP_congr {B : Bk} {P : Pl} (W : WP B P) (hB : bF B ≤ 6) {x y : Nat → Int32} (h : ∀ f : Nat, f < bF B → x f = y f) (i j : Int32) : inP P x i j = inP P y i j := by
  obtain ⟨w1, w2, w3, w4, w5⟩ := W
  simp only [inP]
  rw [tH_congr w5 hB h]
  congr 1
  congr 1
  · cases e : pI1 P with
    | none => rfl
    | some f => simp only [oq_s, h f (w2 f e)]
  congr 1
  · cases e : pI2 P with
    | none => rfl
    | some f => simp only [oq_s, h f (w3 f e)]
  · cases e : pS P with
    | none => rfl
    | some f => simp only [oq_s, h f (w1 f e)]
def okA (A : AS) (r : Nat) (d : Int32) (fil : Nat) : Bool := thA A r d && decide (bB (aB A) (vX A r d fil) = bN (aB A))
theorem oi_m {o : Option Nat} {f : Nat} (h : o = some f) (hf : f < 6) : oi o = Int32.ofNat f ∧ ¬ oi o = -1 := by
  subst h
  refine ⟨rfl, ?_⟩
  show ¬ Int32.ofNat f = -1
  rw [← Int32.toInt_inj, ti_of (by omega)]
  have : (-1 : Int32).toInt = -1 := rfl
  rw [this]; omega

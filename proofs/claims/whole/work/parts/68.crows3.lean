/-! the class's rows: rules and gaps of a row -/
def RG (c b n : Nat) (h : MHp) (B : Bk) : Prop := CL c h ∧ hR h (c + 56) 5 = some b ∧ (b = c + 2 ∨ b = c + 57) ∧ CB h b B ∧ WB B ∧ hI h (c + 56) 6 = Int32.ofNat n ∧ n ≤ 60
theorem RG.ib {c b n : Nat} {h : MHp} {B : Bk} (G : RG c b n h B) : IsB h b := by
  obtain ⟨L, g1, g2, -⟩ := G
  rcases g2 with rfl | rfl
  · exact L.b (Or.inl rfl)
  · exact L.b (Or.inr rfl)
theorem Sc.CL {c : Nat} {h h' : MHp} (S : Sc c h h') (L : CL c h) : CL c h' := by
  obtain ⟨a1, a2, a3, a4, -⟩ := S
  obtain ⟨l1, l2, l3⟩ := L
  exact ⟨by rw [a1, a2]; exact l1, by rw [a3]; exact l2, by rw [a4]; exact l3⟩
theorem Sc.bk {c b : Nat} {h h' : MHp} (S : Sc c h h') (hb : b = c + 2 ∨ b = c + 57) : Ag b (b + 53) h h' := S.ag (fun a x y => ⟨by omega, fun j hj => by have := scr_p hj; omega⟩)
theorem RG.sc {c b n : Nat} {h h' : MHp} {B : Bk} (S : Sc c h h') (G : RG c b n h B) : RG c b n h' B := by
  obtain ⟨L, g1, g2, g3, g4, g5, g6⟩ := G
  refine ⟨S.CL L, ?_, g2, g3.ag (S.bk g2) g4.2.1, g4, ?_, g6⟩
  · rw [S.2.2.1]; exact g1
  · rw [(S.cell (a := 56) (by decide)).1]; exact g5
theorem Sc_lV {c : Nat} {h h' : MHp} (S : Sc c h h') {nf r fil f : Nat} {d : Int32} : lV c h' nf r d fil f = lV c h nf r d fil f := by
  have e := fun a d => (S.cell (a := a) d).2
  simp only [lV, rV, e 110 (by decide), e 112 (by decide), e 113 (by decide), e 115 (by decide), e 116 (by decide), e 117 (by decide)]
theorem g_load {c b n r fil k : Nat} {h : MHp} {B : Bk} (G : RG c b n h B) (hr : r < n) (hfil : fil < 5) (d : Int32) (hk : k = 118 ∨ k = 186 ∨ k = 187 ∨ k = 188 ∨ k = 193) : mX9_load h (c + 56) (Int32.ofNat r) d (Int32.ofNat fil) (some (c + k)) = some (sAI h (c + k) (lD c h (bF B) r d fil (hAI h (c + k)))) := by
  have I := G.ib
  obtain ⟨L, g1, g2, g3, g4, g5, g6⟩ := G
  have z : hK h (c + k) = 20 ∧ hN h (c + k) = 6 := by
    rcases hk with rfl | rfl | rfl | rfl | rfl
    · exact ⟨lK118 L, lN118 L⟩
    · exact ⟨lK186 L, lN186 L⟩
    · exact ⟨lK187 L, lN187 L⟩
    · exact ⟨lK188 L, lN188 L⟩
    · exact ⟨lK193 L, lN193 L⟩
  exact p_load L g1 I g5 g6 g3.1 g4.1 hr hfil d hk z.1 z.2
theorem bB_lD {c r fil : Nat} {h : MHp} {B : Bk} {d : Int32} {g : Nat → Int32} (W : WB B) : bB B (lD c h (bF B) r d fil g) = bB B (fun f => lV c h (bF B) r d fil f) :=
  bB_congr W (fun f hf => by have := W.1; simp only [lD, if_pos (show f < 6 by omega)])
/-- a book's first rule for the values in a row of six -/
theorem g_rule {c b n k : Nat} {h : MHp} {B : Bk} (G : RG c b n h B) (hk : hK h k = 20) (hn : hN h k = 6) : mX1_ruleThatHolds h b (some k) = some (if bB B (hAI h k) < bN B then Int32.ofNat (bB B (hAI h k)) else -2) := by
  have I := G.ib
  obtain ⟨L, g1, g2, g3, g4, g5, g6⟩ := G
  exact p_rule I g3 g4 hk hn
/-- the first rule of a row as it is now; what it writes down -/
def nR (c : Nat) (h : MHp) (B : Bk) (r : Nat) : Nat := bB B (fun f => lV c h (bF B) r (hI h (c + 56) 7) 0 f)
def nH (c : Nat) (h : MHp) (B : Bk) (r : Nat) : MHp := sAI h (c + 118) (lD c h (bF B) r (hI h (c + 56) 7) 0 (hAI h (c + 118)))
theorem g_ruleRow {c b n r : Nat} {h : MHp} {B : Bk} (G : RG c b n h B) (hr : r < n) : mX9_ruleThatHolds h (c + 56) (Int32.ofNat r) = some (if nR c h B r < bN B then Int32.ofNat (nR c h B r) else -2, nH c h B r) := by
  have e1 := g_load G hr (fil := 0) (by omega) (hI h (c + 56) 7) (Or.inl rfl)
  have G2 : RG c b n (nH c h B r) B := G.sc (Sc.AI 118 _ (by decide))
  have I := G.ib
  obtain ⟨L, g1, g2, g3, g4, g5, g6⟩ := G
  have e2 := g_rule G2 (k := c + 118) (lK118 L) (lN118 L)
  have e3 : hAI (nH c h B r) (c + 118) = lD c h (bF B) r (hI h (c + 56) 7) 0 (hAI h (c + 118)) := by unfold nH; rw [e_sAI, if_pos rfl]
  rw [e3, bB_lD g4] at e2
  have i1 := I.1
  change mX9_load h (c + 56) (Int32.ofNat r) (hI h (c + 56) 7) 0 (some (c + 118)) = some (nH c h B r) at e1
  have j1 : hR (nH c h B r) (c + 56) 5 = some b := g1
  have j2 : hR (nH c h B r) (c + 56) 11 = some (c + 118) := lR56_11 L
  have j3 : hK (nH c h B r) (c + 56) = 10 := lK56 L
  have j4 : hK (nH c h B r) b = 2 := i1
  simp (disch := first | assumption | omega | (simp (disch := omega) only [Int32.lt_iff_toInt_lt, Int32.le_iff_toInt_le, ← Int32.toInt_inj, ti_of, Int32.reduceToInt]; omega)) only [mX9_ruleThatHolds, mX9_loadNow, lK56 L, lR56_11 L, e1, j1, j2, j3, j4, e2, o_bind, o_map, b_rcv, b_gI, b_gL, b_gR, b_gN, b_pI, b_pL, b_pR, b_gAI, b_gAL, b_gAR, b_pAI, b_pAL, bad_of, bad_l, Bool.false_eq_true, ↓reduceIte, Int32.reduceLT, Int32.reduceLE, Int32.reduceToNatClampNeg, Int32.reduceOfNat, Int32.reduceAdd, Int32.reduceSub, Int32.reduceMul, Nat.reduceAdd, Nat.reduceMul, Nat.reduceEqDiff, if_pos, if_neg]
  rfl
/-! gaps -/
def ms (p : Nat → Bool) : Nat → Nat → Int32 → Int32
  | 0, _, a => a
  | m + 1, k, a => ms p m (k + 1) (if p k = true then a ||| (1 <<< (Int32.ofNat k &&& 31)) else a)
theorem ms_0 (p : Nat → Bool) (k : Nat) (a : Int32) : ms p 0 k a = a := (rfl)
theorem ms_s (p : Nat → Bool) (m k : Nat) (a : Int32) : ms p (m + 1) k a = ms p m (k + 1) (if p k = true then a ||| (1 <<< (Int32.ofNat k &&& 31)) else a) := (rfl)
def gp (x : Nat → Int32) (f : Nat) : Bool := decide (x f = -1)
theorem p_gaps_l4 {h : MHp} {b v : Nat} {B : Bk} (I : IsB h b) (C : CB h b B) (W : WB B) (hk : hK h v = 20) (hn : hN h v = 6) : ∀ (m fu i : Nat) (a : Int32), i + m = bF B → m < fu → mX1_gapsOf_l4 h fu b (some v) a (Int32.ofNat i) = some (ms (gp (hAI h v)) m i a) := by
  intro m
  have i1 := I.1
  have c1 := C.1
  have w1 := W.1
  induction m with
  | zero =>
    intro fu i a hi hf
    obtain ⟨fu, rfl⟩ : ∃ g : Nat, fu = g + 1 := ⟨fu - 1, by omega⟩
    simp (disch := first | assumption | omega | (simp (disch := omega) only [Int32.lt_iff_toInt_lt, Int32.le_iff_toInt_le, ← Int32.toInt_inj, ti_of, Int32.reduceToInt]; omega)) only [mX1_gapsOf_l4, i1, c1, ms_0, o_bind, o_map, b_rcv, b_gI, b_gL, b_gR, b_gN, b_pI, b_pL, b_pR, b_gAI, b_gAL, b_gAR, b_pAI, b_pAL, bad_of, bad_l, Bool.false_eq_true, ↓reduceIte, Int32.reduceLT, Int32.reduceLE, Int32.reduceToNatClampNeg, Int32.reduceOfNat, Int32.reduceAdd, Int32.reduceSub, Int32.reduceMul, Nat.reduceAdd, Nat.reduceMul, Nat.reduceEqDiff, if_pos, if_neg]
  | succ m ih =>
    intro fu i a hi hf
    obtain ⟨fu, rfl⟩ : ∃ g : Nat, fu = g + 1 := ⟨fu - 1, by omega⟩
    have ih1 := fun a => ih fu (i + 1) a (by omega) (by omega)
    simp (disch := first | assumption | omega | (simp (disch := omega) only [Int32.lt_iff_toInt_lt, Int32.le_iff_toInt_le, ← Int32.toInt_inj, ti_of, Int32.reduceToInt]; omega)) only [mX1_gapsOf_l4, mX1_gapsOf_b31, i1, c1, hk, hn, cl_of, s1_of, ih1, ms_s, o_bind, o_map, b_rcv, b_gI, b_gL, b_gR, b_gN, b_pI, b_pL, b_pR, b_gAI, b_gAL, b_gAR, b_pAI, b_pAL, bad_of, bad_l, Bool.false_eq_true, ↓reduceIte, Int32.reduceLT, Int32.reduceLE, Int32.reduceToNatClampNeg, Int32.reduceOfNat, Int32.reduceAdd, Int32.reduceSub, Int32.reduceMul, Nat.reduceAdd, Nat.reduceMul, Nat.reduceEqDiff, if_pos, if_neg]
    by_cases q : hAI h v i = -1 <;> simp [q, gp]
theorem g_gaps {c b n k : Nat} {h : MHp} {B : Bk} (G : RG c b n h B) (hk : hK h k = 20) (hn : hN h k = 6) : mX1_gapsOf h b (some k) = some (ms (gp (hAI h k)) (bF B) 0 0) := by
  have I := G.ib
  obtain ⟨L, g1, g2, g3, g4, g5, g6⟩ := G
  have := g4.1
  exact p_gaps_l4 I g3 g4 hk hn (bF B) FUEL 0 0 (by omega) (by unfold FUEL; omega)

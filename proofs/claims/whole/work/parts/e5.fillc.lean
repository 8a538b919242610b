/-! fill: the class's -/
def fiB (A : AS) (row : Nat) : Bool := !(decide (ctN (gp (nvX A row)) (bF (aB A)) 0 = 0)) && (decide (bB (aB A) (nvX A row) = bN (aB A)) && (decide (aA A 2 row = -2) && decide (aA A 4 row = -2)))
theorem fiB_t {A : AS} {row : Nat} : fiB A row = true ↔ ¬ ctN (gp (nvX A row)) (bF (aB A)) 0 = 0 ∧ bB (aB A) (nvX A row) = bN (aB A) ∧ aA A 2 row = -2 ∧ aA A 4 row = -2 := by
  unfold fiB
  rw [Bool.and_eq_true, Bool.and_eq_true, Bool.and_eq_true, Bool.not_eq_true', decide_eq_false_iff_not, decide_eq_true_eq, decide_eq_true_eq, decide_eq_true_eq]
theorem gpA_N (A : AS) (row : Nat) : gpA A row = Int32.ofNat (ctN (gp (nvX A row)) (bF (aB A)) 0) := by
  have := cntF_N (gp (nvX A row)) (bF (aB A)) 0 0
  rw [Nat.zero_add] at this
  exact this
theorem p_canFill {c row : Nat} {h : MHp} {A : AS} (C : CR c h A) (W : WA A) (hr : row < aN A 2) : ∃ h2 : MHp, mX9_canBeFilled h (c + 56) (Int32.ofNat row) = some (if fiB A row = true then 1 else 0, h2) ∧ Sc c h h2 := by
  have L := C.l
  have n60 := W.2.2.2.1
  have e1 := p_has1 L C.2.1.2.2.2.2.2.1 n60 hr
  have w12 := W.1.2.1
  have w6 := W.1.1
  have bd := bad_n (k := row) (n := 60) (by omega) (by omega)
  have clr : (Int32.ofNat row).toNatClampNeg = row := cl_of (by omega)
  obtain ⟨h1, e2, S1⟩ := p_countGaps C W hr
  have C1 := C.sc W S1
  have L1 := S1.CL L
  have l6 := ctN_le (gp (nvX A row)) (bF (aB A)) 0
  rw [gpA_N] at e2
  have le0 : (Int32.ofNat (ctN (gp (nvX A row)) (bF (aB A)) 0) ≤ 0) = (ctN (gp (nvX A row)) (bF (aB A)) 0 = 0) := by
    rw [show (0 : Int32) = Int32.ofNat 0 from rfl, le_of (by omega) (by omega)]
    exact propext Nat.le_zero
  by_cases g0 : ctN (gp (nvX A row)) (bF (aB A)) 0 = 0
  · refine ⟨h1, ?_, S1⟩
    rw [mX9_canBeFilled, b_rcv, if_pos (lK56 L), e1, o_bind, if_neg n10, b_rcv, if_pos (lK56 L), e2, o_bind, if_pos (by rw [le0]; exact g0), if_neg (fun hh => (fiB_t.mp hh).1 g0)]
  · obtain ⟨h2, e3, S2⟩ := C1.rr W hr
    have L2 := S2.CL L1
    have C2 := C1.sc W S2
    have z7 : hAI h2 (c + 111) = aA A 2 := C2.2.2.1.2.2.2.2.2.2.1
    have z9 : hAI h2 (c + 113) = aA A 4 := C2.2.2.1.2.2.2.2.2.2.2.2.1
    have en : vX A row (aS A 3) 0 = nvX A row := rfl
    rw [en] at e3
    have lb := bB_le (aB A) (nvX A row)
    refine ⟨h2, ?_, S1.tr S2⟩
    rw [mX9_canBeFilled, b_rcv, if_pos (lK56 L), e1, o_bind, if_neg n10, b_rcv, if_pos (lK56 L), e2, o_bind, if_neg (by rw [le0]; exact g0), b_rcv, if_pos (lK56 L1), e3, o_bind]
    by_cases g : bB (aB A) (nvX A row) = bN (aB A)
    · rw [if_neg (show ¬ bB (aB A) (nvX A row) < bN (aB A) by omega), if_pos rfl, b_gR, if_pos (lK56 L2), lR56_1 L2, b_gAI, if_pos (lK111 L2), lN111 L2, if_neg bd, clr, z7]
      by_cases g2 : aA A 2 row = -2
      · rw [if_pos g2, b_gR, if_pos (lK56 L2), lR56_3 L2, b_gAI, if_pos (lK113 L2), lN113 L2, if_neg bd, clr, z9]
        by_cases g3 : aA A 4 row = -2
        · rw [if_pos g3, if_pos (fiB_t.mpr ⟨g0, g, g2, g3⟩)]
        · rw [if_neg g3, if_neg (fun hh => g3 (fiB_t.mp hh).2.2.2)]
      · rw [if_neg g2, if_neg (fun hh => g2 (fiB_t.mp hh).2.2.1)]
    · rw [if_pos (show bB (aB A) (nvX A row) < bN (aB A) by omega), if_neg (nm2_of (by omega)), if_neg (fun hh => g (fiB_t.mp hh).2.1)]
def gpN (A : AS) (row : Nat) : Nat := bits6 (gp (nvX A row)) (bF (aB A))
def fP (A : AS) (row : Nat) : Nat → Option Nat := gvP A row (gpN A row) (2 ^ bF (aB A) - 1)
def fC (A : AS) (row : Nat) : Nat := (gvs (fP A row) (aN A 2)).1
def fG (A : AS) (row lot fil : Nat) : Nat := (gvs (fP A row) (aN A 2)).2.2 ((lot + fil) % fC A row)
def g8A (A : AS) (row lot : Nat) (j : Nat) : Int32 := if 30 * row ≤ j ∧ j < 30 * row + 30 ∧ (j - 30 * row) % 6 < bF (aB A) then nvX A (fG A row lot ((j - 30 * row) / 6)) ((j - 30 * row) % 6) else aA A 8 j
theorem g8A_v {A : AS} (W : WA A) {row lot fil f : Nat} (hfil : fil < 5) (hf : f < bF (aB A)) : g8A A row lot (6 * (5 * row + fil) + f) = nvX A (fG A row lot fil) f := by
  have w6 := W.1.1
  unfold g8A
  have e1 : (6 * (5 * row + fil) + f - 30 * row) % 6 = f := by omega
  have e2 : (6 * (5 * row + fil) + f - 30 * row) / 6 = fil := by omega
  rw [e1, e2, if_pos ⟨by omega, by omega, hf⟩]
theorem g8A_o {A : AS} {row lot : Nat} (j : Nat) (hj : j < 30 * row ∨ 30 * row + 30 ≤ j) : g8A A row lot j = aA A 8 j := by
  unfold g8A
  rw [if_neg (by omega)]
theorem gpN_t {A : AS} (W : WA A) {row f : Nat} (hf : f < bF (aB A)) : (gpN A row).testBit f = gp (nvX A row) f := by
  unfold gpN
  rw [bits6_t _ W.1.1, decide_eq_true hf, Bool.true_and]
theorem gpN_64 {A : AS} (W : WA A) (row : Nat) : gpN A row < 64 := Nat.lt_of_lt_of_le (bits6_lt _ _) (p2_64 W.1.1)
theorem fG_ok {A : AS} (W : WA A) {row lot fil : Nat} (h : ¬ fC A row = 0) : fG A row lot fil < aN A 2 ∧ fG A row lot fil ≠ row ∧ gvB A row (gpN A row) (2 ^ bF (aB A) - 1) (fG A row lot fil) = true := by
  rcases gvs_I (P := fP A row) (gvP_6 W) (aN A 2) with I | ⟨z1, z2, z3, z4⟩
  · exact absurd I.1 h
  · have := z4 ((lot + fil) % fC A row) (Nat.mod_lt _ (by unfold fC; omega))
    refine ⟨this.1, ?_⟩
    have e := this.2
    change gvP A row (gpN A row) (2 ^ bF (aB A) - 1) (fG A row lot fil) = _ at e
    unfold gvP at e
    by_cases g : fG A row lot fil = row
    · rw [if_pos g] at e; cases e
    · rw [if_neg g] at e
      by_cases g2 : gvB A row (gpN A row) (2 ^ bF (aB A) - 1) (fG A row lot fil) = true
      · exact ⟨g, g2⟩
      · rw [if_neg g2] at e; cases e
theorem own_gap {A : AS} (W : WA A) {row f : Nat} (hr : row < aN A 2) (hf : f < bF (aB A)) (h4 : aA A 4 row = -2) (h6 : aA A 6 (row * 6 + f) = -1) : nvX A row f = -1 := by
  have wf := ((W.2.2.2.2.2.2.2.2.2.1 row hr).2.2.2.2.2.2.2.2.2.2.1 f hf).2.2.1
  unfold nvX vX vA
  by_cases g1 : (sn (aA A 3 row) (aS A 3) && mb (aA A 9 row) f) = true
  · rw [Bool.and_eq_true] at g1
    have n3 : aA A 3 row ≠ -2 := fun e => by rw [e, sn_m2] at g1; cases g1.1
    exact absurd h6 (wf n3 g1.2).1
  · rw [if_neg g1, if_pos h6, h4, sn_m2, if_neg Bool.false_ne_true]
theorem WA.fiN {A : AS} (W : WA A) {row : Nat} (lot : Nat) (hr : row < aN A 2) (h4 : aA A 4 row = -2) (hc : ¬ fC A row = 0) : WA (fiA A row (g8A A row lot)) := by
  have w6 := W.1.1
  refine W.fi hr h4 (fun f hf fil hfil => ?_) g8A_o ?_
  · rw [g8A_v W hfil hf]
    obtain ⟨z1, z2, z3⟩ := fG_ok W (lot := lot) (fil := fil) hc
    have t9 := (W.1.2.2.1 f hf).2.1
    unfold gvB at z3
    rw [Bool.and_eq_true, Bool.and_eq_true] at z3
    have a := allF_iff _ _ _ |>.mp z3.2.1 f (Nat.zero_le _) (by omega)
    rw [Nat.testBit_two_pow_sub_one, decide_eq_true hf, Bool.true_and, Bool.not_eq_true'] at a
    rcases vA_in W z1 (fil := 0) (by omega) (aS A 3) f hf with e | ⟨u, hu, e⟩
    · exact absurd e (of_decide_eq_false a)
    · have e2 : nvX A (fG A row lot fil) f = Int32.ofNat u := e
      rw [e2]
      exact ⟨ge_0 (by omega), le_N hu (by omega)⟩
  · obtain ⟨z1, z2, z3⟩ := fG_ok W (lot := lot) (fil := 0) hc
    unfold gvB at z3
    rw [Bool.and_eq_true, Bool.and_eq_true, Bool.and_eq_true, decide_eq_true_eq, decide_eq_true_eq] at z3
    rw [← z3.2.2.2]
    refine bB_congr W.1 (fun f hf => ?_)
    rw [g8A_v W (by omega) hf]
    unfold mixG
    rw [gpN_t W hf]
    unfold gp
    by_cases e : nvX A row f = -1
    · rw [if_pos e, if_pos (decide_eq_true e)]
    · rw [if_neg e, if_neg (by rw [decide_eq_false e]; decide)]
theorem c_fil {c row lot : Nat} {A : AS} (W : WA A) (hr : row < aN A 2) (hlot : lot < 1000) (h4 : aA A 4 row = -2) (hc : ¬ fC A row = 0) : ∀ (q fil fu : Nat) (h : MHp), CR c h A → (∀ f : Nat, f < bF (aB A) → hAI h (c + 186) f = nvX A row f) → (∀ i : Nat, i < fC A row → hAI h (c + 191) i = Int32.ofNat ((gvs (fP A row) (aN A 2)).2.2 i)) → (∀ fil' : Nat, fil' < fil → ∀ f : Nat, f < bF (aB A) → aA A 6 (row * 6 + f) = -1 → hAI h (c + 117) (fil' * 360 + (row * 6 + f)) = nvX A (fG A row lot fil') f) → fil + q = 5 → q < fu → ∃ h1 : MHp, mX5_fillRow_l63 fu h (c + 185) (Int32.ofNat row) (Int32.ofNat lot) (Int32.ofNat (gpN A row)) (Int32.ofNat (fC A row)) (Int32.ofNat fil) = some (Int32.ofNat (fC A row), h1) ∧ CR c h1 (fiA A row (g8A A row lot)) ∧ Oc c h h1 := by
  have n60 := W.2.2.2.1
  have w6 := W.1.1
  have c60 : fC A row ≤ aN A 2 := by
    unfold fC
    rcases gvs_I (P := fP A row) (gvP_6 W) (aN A 2) with I | I <;> omega
  intro q
  induction q with
  | zero =>
    intro fil fu h C ho hg hi hq hfu
    obtain ⟨fu, rfl⟩ : ∃ g : Nat, fu = g + 1 := ⟨fu - 1, by omega⟩
    have L := C.l
    have bd := bad_n (k := row) (n := 60) (by omega) (by omega)
    have clr : (Int32.ofNat row).toNatClampNeg = row := cl_of (by omega)
    have e1 := p_has1 L C.2.1.2.2.2.2.2.1 n60 hr
    refine ⟨sAI h (c + 113) (va_up (hAI h (c + 113)) row (aS A 3)), ?_, CR.fi W C (fun f hf h6 fil' hfil' => by rw [hi fil' (by omega) f hf h6, g8A_v W hfil' hf]) g8A_o, Oc.AI 113 _ (by omega)⟩
    rw [mX5_fillRow_l63, if_pos (by rw [show (5 : Int32) = Int32.ofNat 5 from rfl, le_of (by omega) (by omega)]; omega), b_gR, if_pos (lK185 L), lR185_0 L, b_rcv, if_pos (lK56 L), mX9_endFilling, b_rcv, if_pos (lK56 L), e1, o_bind, if_neg n10, b_gR, if_pos (lK56 L), lR56_3 L, b_gI, if_pos (lK56 L), C.td, b_pAI, if_pos (lK113 L), lN113 L, if_neg bd, clr, o_bind]
  | succ q ih =>
    intro fil fu h C ho hg hi hq hfu
    obtain ⟨fu, rfl⟩ : ∃ g : Nat, fu = g + 1 := ⟨fu - 1, by omega⟩
    have L := C.l
    have ml : (lot + fil) % fC A row < fC A row := Nat.mod_lt _ (by omega)
    obtain ⟨z1, z2, z3⟩ := fG_ok W (lot := lot) (fil := fil) hc
    obtain ⟨h1, e2, S1, o1, t1⟩ := p_take (row := row) (S := gpN A row) C W z1 ho
    have C1 := C.sc W S1.1
    have L1 := C1.l
    have e1 := p_has1 L1 C1.2.1.2.2.2.2.2.1 n60 hr
    obtain ⟨X, hX⟩ : ∃ X : MHp, X = sAI h1 (c + 117) (va_cpy (hAI h1 (c + 188)) (hAI h1 (c + 117)) 0 (fil * 360 + row * 6) 6) := ⟨_, rfl⟩
    have CX : CR c X A := by rw [hX]; exact CR.fw W C1 _ (by omega) (by omega) n60 h4
    have OX : Oc c h1 X := by rw [hX]; exact Oc.AI 117 _ (by omega)
    have kp := p_keep (h := h1) (a := c + 188) (b := c + 117) (d := fil * 360 + row * 6) (lK188 L1) (lN188 L1) (lK117 L1) (lN117 L1) (by omega) (by omega)
    rw [← hX] at kp
    obtain ⟨h2, e3, C2, O2⟩ := ih (fil + 1) fu X CX (fun f hf => by rw [hX, e_sAI, if_neg (by omega), o1 _ (by omega) (by omega), ho f hf]) (fun i hi => by rw [hX, e_sAI, if_neg (by omega), o1 _ (by omega) (by omega), hg i hi]) (fun fil' hf' f hf h6 => by
      rw [hX, e_sAI, if_pos rfl]
      unfold va_cpy
      by_cases e : fil' = fil
      · subst e
        have og := own_gap W hr hf h4 h6
        rw [if_pos (by omega), show 0 + (fil' * 360 + (row * 6 + f) - (fil' * 360 + row * 6)) = f by omega, t1 f hf]
        unfold mixG
        rw [gpN_t W hf, if_pos (show gp (nvX A row) f = true from decide_eq_true og)]
      · rw [if_neg (by omega), o1 _ (by omega) (by omega), hi fil' (by omega) f hf h6]) (by omega) (by omega)
    have zc : ¬ Int32.ofNat (fC A row) = 0 := by
      rw [show (0 : Int32) = Int32.ofNat 0 from rfl, eq_of (by omega) (by omega)]; exact hc
    have ei : Int32.ofNat fil * 360 + Int32.ofNat row * 6 = Int32.ofNat (fil * 360 + row * 6) := by
      rw [Int32.ofNat_add, Int32.ofNat_mul, Int32.ofNat_mul]
      rfl
    have eg : hAI h (c + 191) ((lot + fil) % fC A row) = Int32.ofNat (fG A row lot fil) := hg _ ml
    refine ⟨h2, ?_, C2, (S1.1.oc.tr OX).tr O2⟩
    rw [mX5_fillRow_l63, if_neg (by rw [show (5 : Int32) = Int32.ofNat 5 from rfl, le_of (by omega) (by omega)]; omega), nz, if_neg zc, o_bind, ← Int32.ofNat_add, md_of (by omega) (by omega), if_neg (nlt0 (by omega)), b_gR, if_pos (lK185 L), lR185_7 L, b_gN, if_pos (lK191 L), lN191 L, if_neg (by rw [le_of (by omega) (by omega)]; omega), b_gR, if_pos (lK185 L), lR185_7 L, b_gAI, if_pos (lK191 L), lN191 L, if_neg (bad_n (by omega) (by omega)), cl_of (by omega), eg, b_rcv, if_pos (lK185 L), e2, o_bind, mX5_fillRow_b105, b_gR, if_pos (lK185 L1), lR185_0 L1, b_gR, if_pos (lK185 L1), lR185_4 L1, b_rcv, if_pos (lK56 L1), mX9_fillWith, b_rcv, if_pos (lK56 L1), e1, o_bind, if_neg n10, b_gR, if_pos (lK56 L1), lR56_10 L1, ei, kp, o_bind, o_bind, s1_of, e3]
theorem p_fillRow {c row lot : Nat} {h : MHp} {A : AS} (C : CR c h A) (W : WA A) (hr : row < aN A 2) (hlot : lot < 1000) (h4 : aA A 4 row = -2) : (∃ h1 : MHp, mX5_fillRow h (c + 185) (Int32.ofNat row) (Int32.ofNat lot) = some (0, h1) ∧ Sc c h h1 ∧ fC A row = 0) ∨ ∃ h1 : MHp, mX5_fillRow h (c + 185) (Int32.ofNat row) (Int32.ofNat lot) = some (Int32.ofNat (fC A row), h1) ∧ ¬ fC A row = 0 ∧ CR c h1 (fiA A row (g8A A row lot)) ∧ Oc c h h1 := by
  have L := C.l
  have K := lK185 L
  have td := C.td
  have w6 := W.1.1
  have n60 := W.2.2.2.1
  have p6 := p2_64 w6
  have p1 : 1 ≤ 2 ^ bF (aB A) := Nat.one_le_two_pow
  obtain ⟨g, e1, eg⟩ := p_lay C W hr (k := 186) (Or.inl rfl)
  obtain ⟨X, hX⟩ : ∃ X : MHp, X = sAI h (c + 186) g := ⟨_, rfl⟩
  have e1' : mX9_load h (c + 56) (Int32.ofNat row) (aS A 3) 0 (some (c + 186)) = some X := by rw [hX]; exact e1
  have SX : Sc c h X := by rw [hX]; exact Sc.AI 186 _ (by decide)
  have CX := C.sc W SX
  obtain ⟨b, GX⟩ := CX.rg W
  have LX := CX.l
  have i1 := GX.ib.1
  have ox : ∀ f : Nat, f < bF (aB A) → hAI X (c + 186) f = nvX A row f := fun f hf => by rw [hX, e_sAI, if_pos rfl, eg f hf]
  have em : mX1_gapsOf X b (some (c + 186)) = some (Int32.ofNat (gpN A row)) := by
    rw [g_gaps GX (lK186 LX) (lN186 LX), ms_N _ w6, bits6_congr (q := gp (nvX A row)) _ (fun j hj => by
      unfold gp; rw [ox j hj])]
    rfl
  obtain ⟨h2, e3, S2, t2⟩ := p_gather (row := row) (S := gpN A row) (must := 2 ^ bF (aB A) - 1) CX W (gpN_64 W row) (by omega) (by omega) ox
  have C2 := CX.sc W S2.1
  have o2 : ∀ f : Nat, f < bF (aB A) → hAI h2 (c + 186) f = nvX A row f := fun f hf => by rw [S2.2.2 _ (by omega) (by omega) (by omega), ox f hf]
  have e3' : mX5_gatherGivers X (c + 185) (Int32.ofNat row) (Int32.ofNat (gpN A row)) (Int32.ofNat (2 ^ bF (aB A) - 1)) = some (Int32.ofNat (fC A row), h2) := e3
  have c60 : fC A row ≤ aN A 2 := by
    unfold fC
    rcases gvs_I (P := fP A row) (gvP_6 W) (aN A 2) with I | I <;> omega
  have base : mX5_fillRow h (c + 185) (Int32.ofNat row) (Int32.ofNat lot) = if 0 < Int32.ofNat (fC A row) then mX5_fillRow_l63 FUEL h2 (c + 185) (Int32.ofNat row) (Int32.ofNat lot) (Int32.ofNat (gpN A row)) (Int32.ofNat (fC A row)) 0 else some (0, h2) := by
    rw [mX5_fillRow, b_gR, if_pos K, lR185_0 L, b_gR, if_pos K, lR185_0 L, b_gI, if_pos (lK56 L), td, b_gR, if_pos K, lR185_2 L, b_rcv, if_pos (lK56 L), e1', o_bind, b_gR, if_pos (lK185 LX), lR185_0 LX, b_gR, if_pos (lK56 LX), GX.2.1, b_gR, if_pos (lK185 LX), lR185_2 LX, b_rcv, if_pos i1, em, o_bind, b_gR, if_pos (lK185 LX), lR185_0 LX, b_gR, if_pos (lK56 LX), GX.2.1, b_rcv, if_pos i1, p_allFields GX, o_bind, b_rcv, if_pos (lK185 LX), e3', o_bind]
  have lt0 : (0 < Int32.ofNat (fC A row)) = (¬ fC A row = 0) := by
    rw [← Int32.not_le, show (0 : Int32) = Int32.ofNat 0 from rfl, le_of (by omega) (by omega)]
    exact propext ⟨fun h => by omega, fun h => by omega⟩
  by_cases z : fC A row = 0
  · left
    exact ⟨h2, by rw [base, if_neg (by rw [lt0]; exact fun hh => hh z)], SX.tr S2.1, z⟩
  · right
    obtain ⟨h3, e4, C3, O3⟩ := c_fil W hr hlot h4 z 5 0 FUEL h2 C2 o2 t2 (fun _ hf => absurd hf (Nat.not_lt_zero _)) (by omega) (by unfold FUEL; omega)
    exact ⟨h3, by rw [base, if_pos (by rw [lt0]; exact z)]; exact e4, z, C3, (SX.oc.tr S2.1.oc).tr O3⟩

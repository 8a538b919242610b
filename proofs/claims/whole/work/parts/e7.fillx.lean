/-! fill -/
def fFin (h : MHp) (m row : Nat) (d : Int32) : MHp := rtb m (sAI h (m + 11) (va_up (hAI h (m + 11)) row d)) 0
theorem q_l268 {m b row lot fil : Nat} {A : AS} {h : MHp} {k : MHp → Nat → Int32 → Int32 → Int32 → Int32 → Option (Int32 × MHp)} (W : WA A) (Q : RQ m b (aN A 2) h A) (hr : row < aN A 2) (hlot : lot < 1000) (hfil : fil < 5) (hc : ¬ fC A row = 0) (hg : ∀ i : Nat, i < fC A row → hAI h (m + 16) i = Int32.ofNat ((gvs (fP A row) (aN A 2)).2.2 i)) : ∀ (q f fu : Nat) (g : Nat → Int32), f + q = bF (aB A) → q < fu → (∀ j : Nat, j < 30 * row ∨ 30 * row + 30 ≤ j → g j = aA A 8 j) → mX16_fill_l268 k fu (sAI h (m + 6) g) m (Int32.ofNat row) (Int32.ofNat lot) (Int32.ofNat (fC A row)) (Int32.ofNat fil) (Int32.ofNat f) = k (sAI h (m + 6) (fun j => if 6 * (5 * row + fil) + f ≤ j ∧ j < 6 * (5 * row + fil) + bF (aB A) then nvX A (fG A row lot fil) (j - 6 * (5 * row + fil)) else g j)) m (Int32.ofNat row) (Int32.ofNat lot) (Int32.ofNat (fC A row)) (Int32.ofNat (fil + 1)) := by
  intro q
  have L0 := Q.1.1
  obtain ⟨V, c1, c2, c3, c4, c5, c6, c7⟩ := id Q
  have f6 := c3.1
  have c60 : fC A row ≤ aN A 2 := by
    unfold fC
    rcases gvs_I (P := fP A row) (gvP_6 W) (aN A 2) with I | I <;> omega
  have ml : (lot + fil) % fC A row < fC A row := Nat.mod_lt _ (by omega)
  obtain ⟨z1, z2, z3⟩ := fG_ok W (lot := lot) (fil := fil) hc
  have eg : hAI h (m + 16) ((lot + fil) % fC A row) = Int32.ofNat (fG A row lot fil) := hg _ ml
  have zc : ¬ Int32.ofNat (fC A row) = 0 := by
    rw [show (0 : Int32) = Int32.ofNat 0 from rfl, eq_of (by omega) (by omega)]; exact hc
  induction q with
  | zero =>
    intro f fu g hf hfu hg
    obtain ⟨fu, rfl⟩ : ∃ g : Nat, fu = g + 1 := ⟨fu - 1, by omega⟩
    have e : (fun j => if 6 * (5 * row + fil) + f ≤ j ∧ j < 6 * (5 * row + fil) + bF (aB A) then nvX A (fG A row lot fil) (j - 6 * (5 * row + fil)) else g j) = g := by
      funext j; rw [if_neg (by omega)]
    rw [e]
    obtain ⟨X, hX⟩ : ∃ X : MHp, X = sAI h (m + 6) g := ⟨_, rfl⟩
    have L : QL m X := by rw [hX]; exact L0
    have x4 : hR X m 4 = some b := by rw [hX]; exact c1
    have xK : hK X b = 13 := by rw [hX]; exact c2.1.1
    have x0 : hI X b 0 = Int32.ofNat (bF (aB A)) := by rw [hX]; exact c2.2.1
    rw [← hX]
    rw [mX16_fill_l268, b_gR, if_pos (qK0 L), x4, b_gI, if_pos xK, x0, if_pos (by rw [le_of (by omega) (by omega)]; omega), s1_of]
  | succ q ih =>
    intro f fu g hf hfu hg
    obtain ⟨fu, rfl⟩ : ∃ g : Nat, fu = g + 1 := ⟨fu - 1, by omega⟩
    have e : (fun j => if 6 * (5 * row + fil) + (f + 1) ≤ j ∧ j < 6 * (5 * row + fil) + bF (aB A) then nvX A (fG A row lot fil) (j - 6 * (5 * row + fil)) else va_up g (6 * (5 * row + fil) + f) (nvX A (fG A row lot fil) f) j) = (fun j => if 6 * (5 * row + fil) + f ≤ j ∧ j < 6 * (5 * row + fil) + bF (aB A) then nvX A (fG A row lot fil) (j - 6 * (5 * row + fil)) else g j) := by
      funext j
      by_cases q : j = 6 * (5 * row + fil) + f
      · rw [if_neg (by omega), if_pos (by omega), e_up, if_pos q]
        congr 1
        omega
      · by_cases q2 : 6 * (5 * row + fil) + (f + 1) ≤ j ∧ j < 6 * (5 * row + fil) + bF (aB A)
        · rw [if_pos q2, if_pos (by omega)]
        · rw [if_neg q2, if_neg (by omega), e_up, if_neg q]
    have e2 := ih (f + 1) fu (va_up g (6 * (5 * row + fil) + f) (nvX A (fG A row lot fil) f)) (by omega) (by omega) (fun j hj => by rw [e_up, if_neg (by omega)]; exact hg j hj)
    rw [e] at e2
    have bi := bad_n (k := 6 * (5 * row + fil) + f) (n := 1800) (by omega) (by omega)
    have cli : (Int32.ofNat (6 * (5 * row + fil) + f)).toNatClampNeg = 6 * (5 * row + fil) + f := cl_of (by omega)
    have V2 := V.g8 g
    obtain ⟨X, hX⟩ : ∃ X : MHp, X = sAI h (m + 6) g := ⟨_, rfl⟩
    have L : QL m X := by rw [hX]; exact L0
    have x4 : hR X m 4 = some b := by rw [hX]; exact c1
    have xK : hK X b = 13 := by rw [hX]; exact c2.1.1
    have x0 : hI X b 0 = Int32.ofNat (bF (aB A)) := by rw [hX]; exact c2.2.1
    have x19 : hI X m 19 = aS A 3 := by rw [hX]; exact c6
    have x6 : hAI X (m + 6) = g := by rw [hX, e_sAI, if_pos rfl]
    have x16 : hAI X (m + 16) = hAI h (m + 16) := by rw [hX, e_sAI, if_neg (by omega)]
    have xx : sAI X (m + 6) (va_up g (6 * (5 * row + fil) + f) (nvX A (fG A row lot fil) f)) = sAI h (m + 6) (va_up g (6 * (5 * row + fil) + f) (nvX A (fG A row lot fil) f)) := by rw [hX, e_AI2]
    rw [← hX] at V2
    rw [← hX]
    have ev := q_valueOf (d := aS A 3) V2 c5 z1 (show f < 6 by omega) (show 0 < 5 by omega)
    rw [vA_g8 (hg _ (by omega))] at ev
    have ev' : mX16_valueOf X m (Int32.ofNat (fG A row lot fil)) (Int32.ofNat f) (aS A 3) 0 = some (nvX A (fG A row lot fil) f) := ev
    rw [mX16_fill_l268, b_gR, if_pos (qK0 L), x4, b_gI, if_pos xK, x0, if_neg (by rw [le_of (by omega) (by omega)]; omega), b_gR, if_pos (qK0 L), qR22 L, b_gR, if_pos (qK0 L), qR33 L, nz, if_neg zc, o_bind, ← Int32.ofNat_add, md_of (by omega) (by omega), b_gAI, if_pos (qK16 L), qN16 L, if_neg (bad_n (by omega) (by omega)), cl_of (by omega), x16, eg, b_gI, if_pos (qK0 L), x19, b_rcv, if_pos (qK0 L), ev', o_bind, ix30, b_pAI, if_pos (qK6 L), qN6 L, if_neg bi, cli, x6, xx, s1_of, e2]
theorem q_l259 {m b row lot : Nat} {A : AS} {h : MHp} (W : WA A) (Q : RQ m b (aN A 2) h A) (hr : row < aN A 2) (hlot : lot < 1000) (hc : ¬ fC A row = 0) (hg : ∀ i : Nat, i < fC A row → hAI h (m + 16) i = Int32.ofNat ((gvs (fP A row) (aN A 2)).2.2 i)) : ∀ (q fil fu : Nat) (g : Nat → Int32), fil + q = 5 → q < fu → (∀ j : Nat, j < 30 * row ∨ 30 * row + 30 ≤ j → g j = aA A 8 j) → mX16_fill_l259 fu (sAI h (m + 6) g) m (Int32.ofNat row) (Int32.ofNat lot) (Int32.ofNat (fC A row)) (Int32.ofNat fil) = some (Int32.ofNat (fC A row), fFin (sAI h (m + 6) (fun j => if 30 * row + 6 * fil ≤ j ∧ j < 30 * row + 30 ∧ (j - 30 * row) % 6 < bF (aB A) then nvX A (fG A row lot ((j - 30 * row) / 6)) ((j - 30 * row) % 6) else g j)) m row (aS A 3)) := by
  intro q
  have L0 := Q.1.1
  obtain ⟨V, c1, c2, c3, c4, c5, c6, c7⟩ := id Q
  have f6 := c3.1
  induction q with
  | zero =>
    intro fil fu g hf hfu hg
    obtain ⟨fu, rfl⟩ : ∃ g : Nat, fu = g + 1 := ⟨fu - 1, by omega⟩
    have e : (fun j => if 30 * row + 6 * fil ≤ j ∧ j < 30 * row + 30 ∧ (j - 30 * row) % 6 < bF (aB A) then nvX A (fG A row lot ((j - 30 * row) / 6)) ((j - 30 * row) % 6) else g j) = g := by
      funext j; rw [if_neg (by omega)]
    rw [e]
    obtain ⟨X, hX⟩ : ∃ X : MHp, X = sAI h (m + 6) g := ⟨_, rfl⟩
    have L : QL m X := by rw [hX]; exact L0
    have x19 : hI X m 19 = aS A 3 := by rw [hX]; exact c6
    rw [← hX]
    have bdr := bad_n (k := row) (n := 60) (by omega) (by omega)
    have clr : (Int32.ofNat row).toNatClampNeg = row := cl_of (by omega)
    obtain ⟨Y, hY⟩ : ∃ Y : MHp, Y = sAI X (m + 11) (va_up (hAI X (m + 11)) row (aS A 3)) := ⟨_, rfl⟩
    have LY : QL m Y := by rw [hY]; exact L
    rw [mX16_fill_l259, if_pos (by rw [show (5 : Int32) = Int32.ofNat 5 from rfl, le_of (by omega) (by omega)]; omega), b_gR, if_pos (qK0 L), qR27 L, b_gI, if_pos (qK0 L), x19, b_pAI, if_pos (qK11 L), qN11 L, if_neg bdr, clr, ← hY, b_rcv, if_pos (qK0 LY), q_done LY, o_bind]
    unfold fFin
    rw [← hY]
  | succ q ih =>
    intro fil fu g hf hfu hg
    obtain ⟨fu, rfl⟩ : ∃ g : Nat, fu = g + 1 := ⟨fu - 1, by omega⟩
    have e1 := q_l268 (k := mX16_fill_l259 fu) W Q hr hlot (show fil < 5 by omega) hc (by assumption) (bF (aB A)) 0 FUEL g (by omega) (by unfold FUEL; omega) hg
    have e1' : mX16_fill_l268 (mX16_fill_l259 fu) FUEL (sAI h (m + 6) g) m (Int32.ofNat row) (Int32.ofNat lot) (Int32.ofNat (fC A row)) (Int32.ofNat fil) 0 = _ := e1
    have e2 := ih (fil + 1) fu (fun j => if 6 * (5 * row + fil) + 0 ≤ j ∧ j < 6 * (5 * row + fil) + bF (aB A) then nvX A (fG A row lot fil) (j - 6 * (5 * row + fil)) else g j) (by omega) (by omega) (fun j hj => by rw [if_neg (by omega)]; exact hg j hj)
    have e : (fun j => if 30 * row + 6 * (fil + 1) ≤ j ∧ j < 30 * row + 30 ∧ (j - 30 * row) % 6 < bF (aB A) then nvX A (fG A row lot ((j - 30 * row) / 6)) ((j - 30 * row) % 6) else (fun j => if 6 * (5 * row + fil) + 0 ≤ j ∧ j < 6 * (5 * row + fil) + bF (aB A) then nvX A (fG A row lot fil) (j - 6 * (5 * row + fil)) else g j) j) = (fun j => if 30 * row + 6 * fil ≤ j ∧ j < 30 * row + 30 ∧ (j - 30 * row) % 6 < bF (aB A) then nvX A (fG A row lot ((j - 30 * row) / 6)) ((j - 30 * row) % 6) else g j) := by
      funext j
      show (if 30 * row + 6 * (fil + 1) ≤ j ∧ j < 30 * row + 30 ∧ (j - 30 * row) % 6 < bF (aB A) then nvX A (fG A row lot ((j - 30 * row) / 6)) ((j - 30 * row) % 6) else (if 6 * (5 * row + fil) + 0 ≤ j ∧ j < 6 * (5 * row + fil) + bF (aB A) then nvX A (fG A row lot fil) (j - 6 * (5 * row + fil)) else g j)) = _
      by_cases q1 : 30 * row + 6 * (fil + 1) ≤ j ∧ j < 30 * row + 30 ∧ (j - 30 * row) % 6 < bF (aB A)
      · rw [if_pos q1, if_pos (by omega)]
      · rw [if_neg q1]
        by_cases q2 : 6 * (5 * row + fil) + 0 ≤ j ∧ j < 6 * (5 * row + fil) + bF (aB A)
        · rw [if_pos q2, if_pos (by omega), show (j - 30 * row) / 6 = fil by omega, show (j - 30 * row) % 6 = j - 6 * (5 * row + fil) by omega]
        · rw [if_neg q2, if_neg (by omega)]
    rw [e] at e2
    rw [mX16_fill_l259, if_neg (by rw [show (5 : Int32) = Int32.ofNat 5 from rfl, le_of (by omega) (by omega)]; omega), e1', e2]
/-- the reference's fill, where both may begin -/
theorem q_fill {m row lot : Nat} {h1 : MHp} {A : AS} (R : RR m h1 A) (W : WA A) (hr : row < aN A 2) (hlot : lot < 1000) : ∃ (X : MHp) (b : Nat), Rs m h1 X ∧ RR m X A ∧ RQ m b (aN A 2) X A ∧ (∀ f : Nat, f < bF (aB A) → hAI X (m + 13) f = nvX A row f) ∧ mX16_fill h1 m (Int32.ofNat row) (Int32.ofNat lot) = if fiB A row = true then mX16_fill_l107 FUEL X m (Int32.ofNat row) (Int32.ofNat lot) 0 0 else some (-1, rtb m X 5) := by
  have n60 := W.2.2.2.1
  have w12 := W.1.2.1
  have w6 := W.1.1
  have R2 := R.th 0
  obtain ⟨b, Q⟩ := R2.rq W (W.pos hr)
  have L2 := R2.1.1
  obtain ⟨X, hX⟩ : ∃ X : MHp, X = sAI (sI h1 m 0 0) (m + 13) (rD A row (aS A 3) 0 (hAI (sI h1 m 0 0) (m + 13))) := ⟨_, rfl⟩
  have SX : Rs m (sI h1 m 0 0) X := by rw [hX]; exact Rs.AI 13 _ (by decide)
  have RX := R2.sc SX
  have QX := Q.sc SX
  have LX := RX.1.1
  have f1 := q_isRow1 L2 R2.2.1.2.2.1 n60 hr
  have l1 : mX16_loads (sI h1 m 0 0) m (Int32.ofNat row) (aS A 3) 0 (some (m + 13)) = some X := by
    rw [hX]; exact q_loads (fil := 0) Q hr (by omega) (aS A 3) (Or.inl rfl)
  have ox : ∀ f : Nat, f < bF (aB A) → hAI X (m + 13) f = nvX A row f := fun f hf => by
    rw [hX, e_sAI, if_pos rfl]
    unfold rD
    rw [if_pos hf]
    rfl
  have eb := q_brokenRow QX (qK13 LX) (qN13 LX)
  rw [bB_congr W.1 ox] at eb
  have l6 := ctN_le (gp (nvX A row)) (bF (aB A)) 0
  have lb := bB_le (aB A) (nvX A row)
  have ecn : cntF (gp (hAI X (m + 13))) (bF (aB A)) 0 0 = Int32.ofNat (ctN (gp (nvX A row)) (bF (aB A)) 0) := by
    rw [← gpA_N]
    exact cntF_congr _ _ _ (fun j _ hj => by
      show decide (hAI X (m + 13) j = -1) = decide (nvX A row j = -1)
      rw [ox j (by omega)])
  have egp := q_gaps QX (qK13 LX) (qN13 LX)
  rw [ecn] at egp
  have eq0 : (Int32.ofNat (ctN (gp (nvX A row)) (bF (aB A)) 0) = 0) = (ctN (gp (nvX A row)) (bF (aB A)) 0 = 0) := by
    rw [show (0 : Int32) = Int32.ofNat 0 from rfl, eq_of (by omega) (by omega)]
  obtain ⟨V, c1, c2, c3, c4, c5, c6, c7⟩ := id QX
  obtain ⟨k1, k2, k3, k4, k5, k6⟩ := V.2.2.2.2.2.2 row hr
  have bd := bad_n (k := row) (n := 60) (by omega) (by omega)
  have clr : (Int32.ofNat row).toNatClampNeg = row := cl_of (by omega)
  have b96 : mX16_fill_b96 X m = some (-1, rtb m X 5) := by
    rw [mX16_fill_b96, b_rcv, if_pos (qK0 LX), q_refused LX 5, o_bind]
  have il : mX16_in (sI h1 m 0 0) (Int32.ofNat lot) 0 999 = some 1 := by
    rw [q_in, if_pos ⟨ge_0 (by omega), by rw [show (999 : Int32) = Int32.ofNat 999 from rfl, le_of (by omega) (by omega)]; omega⟩]
  refine ⟨X, b, (Rs.I 0 0 (by decide)).tr SX, RX, QX, ox, ?_⟩
  rw [mX16_fill, b_pI, if_pos (qK0 R.1.1), b_rcv, if_pos (qK0 L2), f1, o_bind, if_neg n10, il, o_bind, if_neg n10, b_gI, if_pos (qK0 L2), R2.2.1.2.2.2.2.2.2.2.1, b_gR, if_pos (qK0 L2), qR29 L2, b_rcv, if_pos (qK0 L2), l1, o_bind, b_gR, if_pos (qK0 LX), qR29 LX, b_rcv, if_pos (qK0 LX), egp, o_bind]
  by_cases g0 : ctN (gp (nvX A row)) (bF (aB A)) 0 = 0
  · rw [if_pos (by rw [eq0]; exact g0), if_neg (fun hh => (fiB_t.mp hh).1 g0), b96]
  · rw [if_neg (by rw [eq0]; exact g0), b_gR, if_pos (qK0 LX), c1, b_gR, if_pos (qK0 LX), qR29 LX, b_rcv, if_pos c2.1.1, eb, o_bind]
    by_cases g : bB (aB A) (nvX A row) = bN (aB A)
    · rw [if_neg (show ¬ bB (aB A) (nvX A row) < bN (aB A) by omega), if_pos rfl, b_gR, if_pos (qK0 LX), qR24 LX, b_gAI, if_pos (qK8 LX), qN8 LX, if_neg bd, clr, k1]
      by_cases g2 : aA A 2 row = -2
      · rw [if_pos (by rw [un2_m k4]; exact g2), b_gR, if_pos (qK0 LX), qR27 LX, b_gAI, if_pos (qK11 LX), qN11 LX, if_neg bd, clr, k3]
        by_cases g3 : aA A 4 row = -2
        · rw [if_pos (by rw [un2_m k6]; exact g3), if_pos (fiB_t.mpr ⟨g0, g, g2, g3⟩)]
        · rw [if_neg (by rw [un2_m k6]; exact g3), if_neg (fun hh => g3 (fiB_t.mp hh).2.2.2), b96]
      · rw [if_neg (by rw [un2_m k4]; exact g2), if_neg (fun hh => g2 (fiB_t.mp hh).2.2.1), b96]
    · rw [if_pos (show bB (aB A) (nvX A row) < bN (aB A) by omega), if_neg (nm_of (by omega)), if_neg (fun hh => g (fiB_t.mp hh).2.1), b96]
theorem q_filled {m b row lot : Nat} {X : MHp} {A : AS} (W : WA A) (R : RR m X A) (Q : RQ m b (aN A 2) X A) (hr : row < aN A 2) (hlot : lot < 1000) (ox : ∀ f : Nat, f < bF (aB A) → hAI X (m + 13) f = nvX A row f) : ∃ h2 : MHp, Om m X h2 ∧ ((fC A row = 0 ∧ mX16_fill_l107 FUEL X m (Int32.ofNat row) (Int32.ofNat lot) 0 0 = some (-1, h2) ∧ RR m h2 (tb A 6)) ∨ ¬ fC A row = 0 ∧ mX16_fill_l107 FUEL X m (Int32.ofNat row) (Int32.ofNat lot) 0 0 = some (Int32.ofNat (fC A row), h2) ∧ RR m h2 (tb (fiA A row (g8A A row lot)) 0)) := by
  have w6 := W.1.1
  have n60 := W.2.2.2.1
  have e1 := q_gmask (v1 := Int32.ofNat row) (v2 := Int32.ofNat lot) Q ox (bF (aB A)) 0 FUEL 0 (by omega) (by unfold FUEL; omega)
  have e1' : mX16_fill_l107 FUEL X m (Int32.ofNat row) (Int32.ofNat lot) 0 0 = mX16_fill_l156 FUEL X m (Int32.ofNat row) (Int32.ofNat lot) (Int32.ofNat (gpN A row)) 0 0 0 := by
    rw [ms_N _ w6] at e1
    exact e1
  obtain ⟨h2, e2, R2, t2⟩ := q_fgv (row := row) (lot := lot) W hr (aN A 2) 0 FUEL 0 X Q ox (fun hh => absurd rfl hh) (fun i hi => absurd hi (Nat.not_lt_zero _)) (by omega) (by unfold FUEL; omega)
  have e2' : mX16_fill_l156 FUEL X m (Int32.ofNat row) (Int32.ofNat lot) (Int32.ofNat (gpN A row)) 0 0 0 = _ := e2
  have RR2 := R.sc R2.1
  have Q2 := Q.sc R2.1
  have L2 := RR2.1.1
  by_cases z : fC A row = 0
  · refine ⟨rtb m h2 6, R2.1.om.tr Om.tb, Or.inl ⟨z, ?_, RR2.tb (by decide)⟩⟩
    rw [e1', e2', if_pos z, q_refused L2 6, o_bind]
  · have e3 := q_l259 (lot := lot) W Q2 hr hlot z t2 5 0 FUEL (hAI h2 (m + 6)) (by omega) (by unfold FUEL; omega) (fun j _ => by rw [Q2.1.2.2.2.1])
    rw [e_AIself] at e3
    have eg : (fun j => if 30 * row + 6 * 0 ≤ j ∧ j < 30 * row + 30 ∧ (j - 30 * row) % 6 < bF (aB A) then nvX A (fG A row lot ((j - 30 * row) / 6)) ((j - 30 * row) % 6) else hAI h2 (m + 6) j) = g8A A row lot := by
      funext j
      unfold g8A
      rw [Q2.1.2.2.2.1, Nat.mul_zero, Nat.add_zero]
    rw [eg] at e3
    have e3' : mX16_fill_l259 FUEL h2 m (Int32.ofNat row) (Int32.ofNat lot) (Int32.ofNat (fC A row)) 0 = _ := e3
    refine ⟨fFin (sAI h2 (m + 6) (g8A A row lot)) m row (aS A 3), ?_, Or.inr ⟨z, by rw [e1', e2', if_neg z, e3'], ?_⟩⟩
    · unfold fFin
      exact (((R2.1.om).tr (Om.AI _ _ (by omega))).tr (Om.AI _ _ (by omega))).tr Om.tb
    · have := (RR2.fi row (g8A A row lot) W).tb (t := 0) (by decide)
      unfold fFin
      have a11 : hAI (sAI h2 (m + 6) (g8A A row lot)) (m + 11) = hAI h2 (m + 11) := by rw [e_sAI, if_neg (by omega)]
      rw [a11]
      exact this
theorem x_fill {c m : Nat} {h : MHp} {A : AS} (C : CR c h A) (W : WA A) (a l : Int32) : XS c m h A (mX11_fill h c a l) (fun h1 => mX16_fill h1 m a l) := by
  have L := C.l
  have t1 := C.2.1.2.2.2.2.2.1
  have h60 := W.2.2.2.1
  have pw := p_within h l 0 999
  rcases rng a (aN A 2) with ⟨r, hr, rfl⟩ | hno
  · have e1 := p_has1 L t1 h60 hr
    by_cases gl : 0 ≤ l ∧ l ≤ 999
    · obtain ⟨lot, rfl, hl2⟩ := ex_of (fun hh => le_y hh gl.1 : ¬ l < 0)
      have hlot : lot < 1000 := by
        have := gl.2
        rw [show (999 : Int32) = Int32.ofNat 999 from rfl, le_of (by omega) (by omega)] at this
        omega
      rw [if_pos gl] at pw
      obtain ⟨h2, e2, S2⟩ := p_canFill C W hr
      have L2 := S2.CL L
      have cls : mX11_fill h c (Int32.ofNat r) (Int32.ofNat lot) = if fiB A r = true then mX11_fill_b47 h2 c (Int32.ofNat r) (Int32.ofNat lot) (some c) 0 else mX11_fill_b47 h2 c (Int32.ofNat r) (Int32.ofNat lot) (some c) 5 := by
        rw [mX11_fill, b_gR, if_pos (lK0 L), lR0_2 L, b_rcv, if_pos (lK56 L), e1, o_bind, if_neg n10, pw, o_bind, if_neg n10, b_gR, if_pos (lK0 L), lR0_2 L, b_rcv, if_pos (lK56 L), e2, o_bind]
        by_cases g : fiB A r = true
        · rw [if_pos g, if_pos g, if_neg n10]
        · rw [if_neg g, if_neg g, if_pos rfl]
      by_cases g : fiB A r = true
      · rw [if_pos g] at cls
        have g4 := (fiB_t.mp g).2.2.2
        have L3 : CL c (sI h2 c 15 0) := L2
        have C3 : CR c (sI h2 c 15 0) (tb A 0) := (C.sc W S2).tb (by decide)
        have i0 : hI (sI h2 c 15 0) c 15 = 0 := e_Iself _ _ _ _
        rw [mX11_fill_b47, b_pI, if_pos (lK0 L2), b_gI, if_pos (lK0 L3), i0, if_pos rfl, b_gR, if_pos (lK0 L3), lR0_6 L3, b_rcv, if_pos (lK185 L3)] at cls
        have O2 : Oc c h (sI h2 c 15 0) := S2.oc.tr (Oc.I0 15 0)
        rcases p_fillRow (lot := lot) C3 W.tb hr hlot g4 with ⟨h4, e4, S4, z⟩ | ⟨h4, e4, z, C4, O4⟩
        · have z : fC A r = 0 := z
          have L4 := S4.CL L3
          rw [e4, o_bind, if_pos rfl, b_pI, if_pos (lK0 L4)] at cls
          have C5 := (C3.sc W.tb S4).tb (t := 6) (by decide)
          rw [tb_tb] at C5
          refine ⟨-1, tb A 6, W, ⟨_, cls, C5, (O2.tr S4.oc).tr (Oc.I0 15 6)⟩, fun h1 R => ?_⟩
          obtain ⟨X, b, SX, RX, QX, ox, eX⟩ := q_fill R W hr hlot
          rw [if_pos g] at eX
          obtain ⟨h5, O5, r5⟩ := q_filled (lot := lot) W RX QX hr hlot ox
          rcases r5 with ⟨-, e5, R5⟩ | ⟨nz5, -, -⟩
          · exact ⟨h5, by show mX16_fill h1 m (Int32.ofNat r) (Int32.ofNat lot) = _; rw [eX, e5], R5, SX.om.tr O5⟩
          · exact absurd z nz5
        · have z : ¬ fC A r = 0 := z
          have c60 : fC A r ≤ aN A 2 := by
            unfold fC
            rcases gvs_I (P := fP A r) (gvP_6 W) (aN A 2) with I | I <;> omega
          have zM : ¬ Int32.ofNat (fC A r) = 0 := by
            rw [show (0 : Int32) = Int32.ofNat 0 from rfl, eq_of (by omega) (by omega)]
            exact z
          have e4 : mX5_fillRow (sI h2 c 15 0) (c + 185) (Int32.ofNat r) (Int32.ofNat lot) = some (Int32.ofNat (fC A r), h4) := e4
          rw [e4, o_bind, if_neg zM] at cls
          refine ⟨Int32.ofNat (fC A r), fiA (tb A 0) r (g8A A r lot), WA.fiN (A := tb A 0) W.tb lot hr g4 z, ⟨h4, cls, C4, O2.tr O4⟩, fun h1 R => ?_⟩
          obtain ⟨X, b, SX, RX, QX, ox, eX⟩ := q_fill R W hr hlot
          rw [if_pos g] at eX
          obtain ⟨h5, O5, r5⟩ := q_filled (lot := lot) W RX QX hr hlot ox
          rcases r5 with ⟨z5, -, -⟩ | ⟨-, e5, R5⟩
          · exact absurd z5 z
          · exact ⟨h5, by show mX16_fill h1 m (Int32.ofNat r) (Int32.ofNat lot) = _; rw [eX, e5], R5, SX.om.tr O5⟩
      · rw [if_neg g, fil_b L2 _ _ 5 (by decide)] at cls
        refine XS.nos 5 (by decide) C W S2 cls (fun h1 R => ?_)
        obtain ⟨X, b, SX, RX, QX, ox, eX⟩ := q_fill R W hr hlot
        rw [if_neg g] at eX
        exact ⟨X, SX, eX⟩
    · rw [if_neg gl] at pw
      refine XS.nos (v := -1) 2 (by decide) C W Sc.rf ?_ (fun h1 R => ⟨sI h1 m 0 0, Rs.I 0 0 (by decide), ?_⟩)
      · rw [mX11_fill, b_gR, if_pos (lK0 L), lR0_2 L, b_rcv, if_pos (lK56 L), e1, o_bind, if_neg n10, pw, o_bind, if_pos rfl, fil_b L _ _ 2 n20]
      · have R2 := R.th 0
        have f1 := q_isRow1 R2.1.1 R2.2.1.2.2.1 h60 hr
        show mX16_fill h1 m (Int32.ofNat r) l = _
        rw [mX16_fill, b_pI, if_pos (qK0 R.1.1), b_rcv, if_pos (qK0 R2.1.1), f1, o_bind, if_neg n10, q_in, if_neg gl, o_bind, if_pos rfl, b_rcv, if_pos (qK0 R2.1.1), q_refused R2.1.1 2, o_bind]
  · have e1 := p_has0 L t1 h60 hno
    refine XS.nos (v := -1) 1 (by decide) C W Sc.rf ?_ (fun h1 R => ⟨sI h1 m 0 0, Rs.I 0 0 (by decide), ?_⟩)
    · rw [mX11_fill, b_gR, if_pos (lK0 L), lR0_2 L, b_rcv, if_pos (lK56 L), e1, o_bind, if_pos rfl, fil_b L _ _ 1 n10]
    · have R2 := R.th 0
      have f1 := q_isRow0 R2.1.1 R2.2.1.2.2.1 h60 hno
      show mX16_fill h1 m a l = _
      rw [mX16_fill, b_pI, if_pos (qK0 R.1.1), b_rcv, if_pos (qK0 R2.1.1), f1, o_bind, if_pos rfl, b_rcv, if_pos (qK0 R2.1.1), q_refused R2.1.1 1, o_bind]

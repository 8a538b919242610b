/-! mend: the reference's, and both -/
theorem RV.g7 {m n : Nat} {h : MHp} {A : AS} (g : Nat → Int32) (V : RV m n h A) : RV m n (sAI h (m + 5) g) (setA A 7 g) := by
  obtain ⟨L, c1, c2, c3, c4, c5, c6⟩ := V
  refine ⟨L, ?_, ?_, ?_, ?_, ?_, fun r hr => ?_⟩
  · rw [e_sAI, if_neg (by omega)]; exact c1
  · rw [e_sAI, if_pos rfl]; rfl
  · rw [e_sAI, if_neg (by omega)]; exact c3
  · rw [e_sAI, if_neg (by omega)]; exact c4
  · rw [e_sAI, if_neg (by omega)]; exact c5
  · rw [e_sAI, if_neg (by omega), e_sAI, if_neg (by omega), e_sAI, if_neg (by omega)]; exact c6 r hr
theorem vA_g7 {A : AS} {r f fil : Nat} {d : Int32} {g : Nat → Int32} (e : g (r * 6 + f) = aA A 7 (r * 6 + f)) : vA (setA A 7 g) r f d fil = vA A r f d fil := by
  unfold vA
  show (if (sn (aA A 3 r) d && mb (aA A 9 r) f) = true then g (r * 6 + f) else _) = _
  rw [e]
  rfl
def mFin (h : MHp) (m row M : Nat) (d gv : Int32) : MHp := rtb m (sI (sAI (sAI h (m + 10) (va_up (hAI h (m + 10)) row (Int32.ofNat M))) (m + 9) (va_up (hAI h (m + 9)) row d)) m 32 gv) 0
theorem q_l347 {m b n row M : Nat} {A : AS} {gv : Int32} {val : Nat → Int32} {h : MHp} (Q : RQ m b n h A) (hr : row < n) (hv : ∀ f : Nat, f < bF (aB A) → (∃ gN : Nat, gv = Int32.ofNat gN ∧ gN < n ∧ gN ≠ row ∧ val f = nvX A gN f) ∨ ¬ 0 ≤ gv ∧ hAI h (m + 14) f = val f) : ∀ (q f fu : Nat) (g : Nat → Int32), f + q = bF (aB A) → q < fu → (∀ j : Nat, j < row * 6 ∨ row * 6 + 6 ≤ j → g j = aA A 7 j) → mX16_mend_l347 fu (sAI h (m + 5) g) m (Int32.ofNat row) (Int32.ofNat M) gv (Int32.ofNat f) = some (Int32.ofNat M, mFin (sAI h (m + 5) (fun j => if row * 6 + f ≤ j ∧ j < row * 6 + bF (aB A) then val (j - row * 6) else g j)) m row M (aS A 3) gv) := by
  intro q
  have L0 := Q.1.1
  obtain ⟨V, c1, c2, c3, c4, c5, c6, c7⟩ := id Q
  have f6 := c3.1
  have bdr := bad_n (k := row) (n := 60) (by omega) (by omega)
  have clr : (Int32.ofNat row).toNatClampNeg = row := cl_of (by omega)
  induction q with
  | zero =>
    intro f fu g hf hfu hg
    obtain ⟨fu, rfl⟩ : ∃ g : Nat, fu = g + 1 := ⟨fu - 1, by omega⟩
    have e : (fun j => if row * 6 + f ≤ j ∧ j < row * 6 + bF (aB A) then val (j - row * 6) else g j) = g := by
      funext j; rw [if_neg (by omega)]
    rw [e]
    obtain ⟨X, hX⟩ : ∃ X : MHp, X = sAI h (m + 5) g := ⟨_, rfl⟩
    have L : QL m X := by rw [hX]; exact L0
    have x4 : hR X m 4 = some b := by rw [hX]; exact c1
    have xK : hK X b = 13 := by rw [hX]; exact c2.1.1
    have x0 : hI X b 0 = Int32.ofNat (bF (aB A)) := by rw [hX]; exact c2.2.1
    have x19 : hI X m 19 = aS A 3 := by rw [hX]; exact c6
    rw [← hX]
    obtain ⟨Y, hY⟩ : ∃ Y : MHp, Y = sAI X (m + 10) (va_up (hAI X (m + 10)) row (Int32.ofNat M)) := ⟨_, rfl⟩
    have LY : QL m Y := by rw [hY]; exact L
    have y19 : hI Y m 19 = aS A 3 := by rw [hY]; exact x19
    have y9 : hAI Y (m + 9) = hAI X (m + 9) := by rw [hY, e_sAI, if_neg (by omega)]
    obtain ⟨Z, hZ⟩ : ∃ Z : MHp, Z = sAI Y (m + 9) (va_up (hAI X (m + 9)) row (aS A 3)) := ⟨_, rfl⟩
    have LZ : QL m Z := by rw [hZ]; exact LY
    have LZ2 : QL m (sI Z m 32 gv) := LZ
    rw [mX16_mend_l347, b_gR, if_pos (qK0 L), x4, b_gI, if_pos xK, x0, if_pos (by rw [le_of (by omega) (by omega)]; omega), b_gR, if_pos (qK0 L), qR26 L, b_pAI, if_pos (qK10 L), qN10 L, if_neg bdr, clr, ← hY, b_gR, if_pos (qK0 LY), qR25 LY, b_gI, if_pos (qK0 LY), y19, b_pAI, if_pos (qK9 LY), qN9 LY, if_neg bdr, clr, y9, ← hZ, b_pI, if_pos (qK0 LZ), b_rcv, if_pos (qK0 LZ2), q_done LZ2, o_bind]
    unfold mFin
    rw [← hY, ← hZ]
  | succ q ih =>
    intro f fu g hf hfu hg
    obtain ⟨fu, rfl⟩ : ∃ g : Nat, fu = g + 1 := ⟨fu - 1, by omega⟩
    have e : (fun j => if row * 6 + (f + 1) ≤ j ∧ j < row * 6 + bF (aB A) then val (j - row * 6) else va_up g (row * 6 + f) (val f) j) = (fun j => if row * 6 + f ≤ j ∧ j < row * 6 + bF (aB A) then val (j - row * 6) else g j) := by
      funext j
      by_cases q : j = row * 6 + f
      · rw [if_neg (by omega), if_pos (by omega), e_up, if_pos q]
        congr 1
        omega
      · by_cases q2 : row * 6 + (f + 1) ≤ j ∧ j < row * 6 + bF (aB A)
        · rw [if_pos q2, if_pos (by omega)]
        · rw [if_neg q2, if_neg (by omega), e_up, if_neg q]
    have e2 := ih (f + 1) fu (va_up g (row * 6 + f) (val f)) (by omega) (by omega) (fun j hj => by rw [e_up, if_neg (by omega)]; exact hg j hj)
    rw [e] at e2
    have bf := bad_n (k := f) (n := 6) (by omega) (by omega)
    have clf : (Int32.ofNat f).toNatClampNeg = f := cl_of (by omega)
    have bi := bad_n (k := row * 6 + f) (n := 360) (by omega) (by omega)
    have cli : (Int32.ofNat (row * 6 + f)).toNatClampNeg = row * 6 + f := cl_of (by omega)
    have V2 := V.g7 g
    obtain ⟨X, hX⟩ : ∃ X : MHp, X = sAI h (m + 5) g := ⟨_, rfl⟩
    have L : QL m X := by rw [hX]; exact L0
    have x4 : hR X m 4 = some b := by rw [hX]; exact c1
    have xK : hK X b = 13 := by rw [hX]; exact c2.1.1
    have x0 : hI X b 0 = Int32.ofNat (bF (aB A)) := by rw [hX]; exact c2.2.1
    have x19 : hI X m 19 = aS A 3 := by rw [hX]; exact c6
    have x5 : hAI X (m + 5) = g := by rw [hX, e_sAI, if_pos rfl]
    have x14 : hAI X (m + 14) = hAI h (m + 14) := by rw [hX, e_sAI, if_neg (by omega)]
    have xx : sAI X (m + 5) (va_up g (row * 6 + f) (val f)) = sAI h (m + 5) (va_up g (row * 6 + f) (val f)) := by rw [hX, e_AI2]
    rw [← hX] at V2
    rw [← hX]
    rcases hv f (by omega) with ⟨gN, g1, g2, g3, g4⟩ | ⟨g1, g2⟩
    · have ev := q_valueOf (d := aS A 3) V2 c5 g2 (show f < 6 by omega) (show 0 < 5 by omega)
      rw [vA_g7 (hg _ (by omega))] at ev
      have ev' : mX16_valueOf X m (Int32.ofNat gN) (Int32.ofNat f) (aS A 3) 0 = some (val f) := by rw [g4]; exact ev
      rw [mX16_mend_l347, b_gR, if_pos (qK0 L), x4, b_gI, if_pos xK, x0, if_neg (by rw [le_of (by omega) (by omega)]; omega), b_gR, if_pos (qK0 L), qR21 L, if_pos (by rw [g1]; exact ge_0 (by omega)), b_gI, if_pos (qK0 L), x19, b_rcv, if_pos (qK0 L), g1, ev', o_bind, mX16_mend_b396, ix6', b_pAI, if_pos (qK5 L), qN5 L, if_neg bi, cli, x5, xx, s1_of, ← g1, e2]
    · rw [mX16_mend_l347, b_gR, if_pos (qK0 L), x4, b_gI, if_pos xK, x0, if_neg (by rw [le_of (by omega) (by omega)]; omega), b_gR, if_pos (qK0 L), qR21 L, if_neg g1, b_gR, if_pos (qK0 L), qR30 L, b_gAI, if_pos (qK14 L), qN14 L, if_neg bf, clf, x14, g2, mX16_mend_b396, ix6', b_pAI, if_pos (qK5 L), qN5 L, if_neg bi, cli, x5, xx, s1_of, e2]
theorem q_again2 {m b n : Nat} {A : AS} {v1 v2 v3 : Int32} : ∀ (q f fu : Nat) (h : MHp), RQ m b n h A → (∀ j : Nat, j < f → hAI h (m + 14) j = hAI h (m + 13) j) → f + q = bF (aB A) → q < fu → ∃ h1 : MHp, mX16_mend_l301 fu h m v1 v2 v3 (Int32.ofNat f) = (mX16_isMended h1 m v2 (some (m + 14))).bind (fun r37 => mX16_mend_l347 FUEL r37.2 m v1 v2 v3 0) ∧ Rmn m h h1 ∧ ∀ j : Nat, j < bF (aB A) → hAI h1 (m + 14) j = hAI h (m + 13) j := by
  intro q
  induction q with
  | zero =>
    intro f fu h Q hj hf hfu
    obtain ⟨fu, rfl⟩ : ∃ g : Nat, fu = g + 1 := ⟨fu - 1, by omega⟩
    have L := Q.1.1
    obtain ⟨V, c1, c2, c3, c4, c5, c6, c7⟩ := id Q
    have f6 := c3.1
    refine ⟨h, ?_, Rmn.rf, fun j hj2 => hj j (by omega)⟩
    rw [mX16_mend_l301, b_gR, if_pos (qK0 L), c1, b_gI, if_pos c2.1.1, c2.2.1, if_pos (by rw [le_of (by omega) (by omega)]; omega), b_gR, if_pos (qK0 L), qR30 L, b_rcv, if_pos (qK0 L)]
  | succ q ih =>
    intro f fu h Q hj hf hfu
    obtain ⟨fu, rfl⟩ : ∃ g : Nat, fu = g + 1 := ⟨fu - 1, by omega⟩
    have L := Q.1.1
    obtain ⟨V, c1, c2, c3, c4, c5, c6, c7⟩ := id Q
    have f6 := c3.1
    have bf := bad_n (k := f) (n := 6) (by omega) (by omega)
    have clf : (Int32.ofNat f).toNatClampNeg = f := cl_of (by omega)
    obtain ⟨X, hX⟩ : ∃ X : MHp, X = sAI h (m + 14) (va_up (hAI h (m + 14)) f (hAI h (m + 13) f)) := ⟨_, rfl⟩
    have SX : Rmn m h X := by rw [hX]; exact Rmn.w _
    have x13 : hAI X (m + 13) = hAI h (m + 13) := SX.2.2 _ (by omega)
    obtain ⟨h1, e1, R1, r1⟩ := ih (f + 1) fu X (Q.sc SX.1) (fun j hj2 => by
      rw [x13, hX, e_sAI, if_pos rfl, e_up]
      by_cases e : j = f
      · rw [if_pos e, e]
      · rw [if_neg e]; exact hj j (by omega)) (by omega) (by omega)
    refine ⟨h1, ?_, SX.tr R1, fun j hj2 => by rw [r1 j hj2, x13]⟩
    rw [mX16_mend_l301, b_gR, if_pos (qK0 L), c1, b_gI, if_pos c2.1.1, c2.2.1, if_neg (by rw [le_of (by omega) (by omega)]; omega), b_gR, if_pos (qK0 L), qR30 L, b_gR, if_pos (qK0 L), qR29 L, b_gAI, if_pos (qK13 L), qN13 L, if_neg bf, clf, b_pAI, if_pos (qK14 L), qN14 L, if_neg bf, clf, ← hX, s1_of, e1]
/-- the reference's mend, where both may begin -/
theorem q_mend {m row : Nat} {h1 : MHp} {A : AS} (R : RR m h1 A) (W : WA A) (hr : row < aN A 2) : ∃ (X : MHp) (b : Nat), Rs m h1 X ∧ RR m X A ∧ RQ m b (aN A 2) X A ∧ (∀ f : Nat, f < bF (aB A) → hAI X (m + 13) f = nvX A row f) ∧ mX16_mend h1 m (Int32.ofNat row) = if bB (aB A) (nvX A row) < bN (aB A) ∧ aA A 2 row = -2 ∧ aA A 3 row = -2 then mX16_mend_l78 FUEL X m (Int32.ofNat row) 0 1 else some (-1, rtb m X 5) := by
  have n60 := W.2.2.2.1
  have w12 := W.1.2.1
  have R2 := R.th 0
  obtain ⟨b, Q⟩ := R2.rq W (W.pos hr)
  have L2 := R2.1.1
  obtain ⟨X, hX⟩ : ∃ X : MHp, X = sAI (sI h1 m 0 0) (m + 13) (rD A row (aS A 3) 0 (hAI (sI h1 m 0 0) (m + 13))) := ⟨_, rfl⟩
  have SX : Rs m (sI h1 m 0 0) X := by rw [hX]; exact Rs.AI 13 _ (by decide)
  have RX := R2.sc SX
  have QX := Q.sc SX
  have LX := RX.1.1
  have f1 := q_isRow1 L2 R2.2.1.2.2.1 n60 hr
  have l1 : mX16_loads (sI h1 m 0 0) m (Int32.ofNat row) (aS A 3) 0 (some (m + 13)) = some X := by
    rw [hX]; exact q_loads (fil := 0) Q hr (by omega) (aS A 3) (Or.inl rfl)
  have ox : ∀ f : Nat, f < bF (aB A) → hAI X (m + 13) f = nvX A row f := fun f hf => by
    rw [hX, e_sAI, if_pos rfl]
    unfold rD
    rw [if_pos hf]
    rfl
  have eb := q_brokenRow QX (qK13 LX) (qN13 LX)
  rw [bB_congr W.1 ox] at eb
  obtain ⟨V, c1, c2, c3, c4, c5, c6, c7⟩ := id QX
  obtain ⟨k1, k2, k3, k4, k5, k6⟩ := V.2.2.2.2.2.2 row hr
  have bd := bad_n (k := row) (n := 60) (by omega) (by omega)
  have clr : (Int32.ofNat row).toNatClampNeg = row := cl_of (by omega)
  have b68 : mX16_mend_b68 X m = some (-1, rtb m X 5) := by
    rw [mX16_mend_b68, b_rcv, if_pos (qK0 LX), q_refused LX 5, o_bind]
  refine ⟨X, b, (Rs.I 0 0 (by decide)).tr SX, RX, QX, ox, ?_⟩
  rw [mX16_mend, b_pI, if_pos (qK0 R.1.1), b_rcv, if_pos (qK0 L2), f1, o_bind, if_neg n10, b_gI, if_pos (qK0 L2), R2.2.1.2.2.2.2.2.2.2.1, b_gR, if_pos (qK0 L2), qR29 L2, b_rcv, if_pos (qK0 L2), l1, o_bind, b_gR, if_pos (qK0 LX), c1, b_gR, if_pos (qK0 LX), qR29 LX, b_rcv, if_pos c2.1.1, eb, o_bind]
  by_cases g : bB (aB A) (nvX A row) < bN (aB A)
  · rw [if_pos g, if_neg (nm_of (by omega)), b_gR, if_pos (qK0 LX), qR24 LX, b_gAI, if_pos (qK8 LX), qN8 LX, if_neg bd, clr, k1]
    by_cases g2 : aA A 2 row = -2
    · rw [if_pos (by rw [un2_m k4]; exact g2), b_gR, if_pos (qK0 LX), qR25 LX, b_gAI, if_pos (qK9 LX), qN9 LX, if_neg bd, clr, k2]
      by_cases g3 : aA A 3 row = -2
      · rw [if_pos (by rw [un2_m k5]; exact g3), if_pos ⟨g, g2, g3⟩]
      · rw [if_neg (by rw [un2_m k5]; exact g3), if_neg (fun hh => g3 hh.2.2), b68]
    · rw [if_neg (by rw [un2_m k4]; exact g2), if_neg (fun hh => g2 hh.2.1), b68]
  · rw [if_neg g, if_pos rfl, if_neg (fun hh => g hh.1), b68]
/-- and where it ends, of what the class found -/
theorem q_mended {m b row M : Nat} {v : Nat → Nat} {X : MHp} {A : AS} (W : WA A) (R : RR m X A) (Q : RQ m b (aN A 2) X A) (hr : row < aN A 2) (ox : ∀ f : Nat, f < bF (aB A) → hAI X (m + 13) f = nvX A row f) (K : MdOK A row M v) : ∃ h2 : MHp, mX16_mend_l78 FUEL X m (Int32.ofNat row) 0 1 = some (Int32.ofNat M, h2) ∧ RR m h2 (tb (mdN A row M v) 0) ∧ Om m X h2 := by
  have sp := W.2.2.2.2.2.2.2.2.2.2.2.2.2.2.2.2.2.2.2.2.2
  have w6 := W.1.1
  obtain ⟨h1, R1, r1⟩ := q_sets (v1 := Int32.ofNat row) sp Q
  have Q1 := Q.sc R1.1
  rcases r1 with ⟨M', e1, mn⟩ | ⟨e1, nn⟩
  · have mn2 := mn.x W.1 ox
    have eM : M' = M := mn2.un W.1 K.1
    subst eM
    have o1 : ∀ f : Nat, f < bF (aB A) → hAI h1 (m + 13) f = nvX A row f := fun f hf => by rw [R1.2.2 _ (by omega), ox f hf]
    obtain ⟨h2, e2, R2⟩ := q_mgv (M := M') W hr (aN A 2) 0 FUEL 0 h1 Q1 o1 (fun hh => absurd rfl hh) (by omega) (by have := W.2.2.2.1; unfold FUEL; omega)
    have e2' : mX16_mend_l245 FUEL h1 m (Int32.ofNat row) (Int32.ofNat M') (-2) 0 0 = _ := e2
    have Q2 := Q1.sc R2.1
    have o2 : ∀ f : Nat, f < bF (aB A) → hAI h2 (m + 13) f = nvX A row f := fun f hf => by rw [R2.2.2 _ (by omega) (by omega), o1 f hf]
    obtain ⟨h3, e3, R3, t3⟩ := q_again2 (v1 := Int32.ofNat row) (v2 := Int32.ofNat M') (v3 := giv (gvP A row M' M') (aN A 2)) (bF (aB A)) 0 FUEL h2 Q2 (fun j hj => absurd hj (Nat.not_lt_zero _)) (by omega) (by unfold FUEL; omega)
    have e3' : mX16_mend_l301 FUEL h2 m (Int32.ofNat row) (Int32.ofNat M') (giv (gvP A row M' M') (aN A 2)) 0 = _ := e3
    have Q3 := Q2.sc R3.1
    have x3 : ∀ f : Nat, f < bF (aB A) → hAI h3 (m + 14) f = nvX A row f := fun f hf => by rw [t3 f hf, o2 f hf]
    obtain ⟨h4, R4, r4⟩ := q_isMended (S := M') Q3 (fun f hf => bit_lt mn.2.1 f hf) sp
    have Q4 := Q3.sc R4.1
    rcases r4 with ⟨v', e4, mv, t4⟩ | ⟨e4, nv⟩
    · have mv2 := MinV.x W.1 x3 mv
      have RR4 : RR m h4 A := (((R.sc R1.1).sc R2.1).sc R3.1).sc R4.1
      have hval : ∀ f : Nat, f < bF (aB A) → (∃ gN : Nat, giv (gvP A row M' M') (aN A 2) = Int32.ofNat gN ∧ gN < aN A 2 ∧ gN ≠ row ∧ mVal A row M' v f = nvX A gN f) ∨ ¬ 0 ≤ giv (gvP A row M' M') (aN A 2) ∧ hAI h4 (m + 14) f = mVal A row M' v f := fun f hf => by
        unfold mVal giv
        by_cases z : mCt A row M' = 0
        · right
          have z' : (gvs (gvP A row M' M') (aN A 2)).1 = 0 := z
          rw [if_pos z', if_pos z]
          refine ⟨by decide, ?_⟩
          rw [t4]
          have un := mv2.un (K.2 z) f hf
          unfold mixW
          by_cases s : M'.testBit f = true
          · rw [if_pos s, if_pos s, un s]
          · rw [if_neg s, if_neg s, x3 f hf]
        · left
          have z' : ¬ (gvs (gvP A row M' M') (aN A 2)).1 = 0 := z
          obtain ⟨z1, z2, z3⟩ := mG0_ok W z
          refine ⟨mG0 A row M', ?_, z1, z2, ?_⟩
          · rw [if_neg z']; rfl
          · rw [if_neg z]
      have e5 := q_l347 (M := M') Q4 hr hval (bF (aB A)) 0 FUEL (hAI h4 (m + 5)) (by omega) (by unfold FUEL; omega) (fun j _ => by rw [Q4.1.2.2.1])
      have e5' : mX16_mend_l347 FUEL h4 m (Int32.ofNat row) (Int32.ofNat M') (giv (gvP A row M' M') (aN A 2)) 0 = some (Int32.ofNat M', mFin (sAI h4 (m + 5) (g7A A row M' v)) m row M' (aS A 3) (giv (gvP A row M' M') (aN A 2))) := by
        rw [e_AIself] at e5
        have eg : (fun j => if row * 6 + 0 ≤ j ∧ j < row * 6 + bF (aB A) then mVal A row M' v (j - row * 6) else hAI h4 (m + 5) j) = g7A A row M' v := by
          funext j
          unfold g7A
          rw [Q4.1.2.2.1, Nat.add_zero]
        rw [eg] at e5
        exact e5
      refine ⟨_, by rw [e1, e2', e3', e4, o_bind, e5'], ?_, ?_⟩
      · have := (RR4.md row M' (g7A A row M' v) (giv (gvP A row M' M') (aN A 2)) W).tb (t := 0) (by decide)
        unfold mFin
        have a10 : hAI (sAI h4 (m + 5) (g7A A row M' v)) (m + 10) = hAI h4 (m + 10) := by rw [e_sAI, if_neg (by omega)]
        have a9 : hAI (sAI h4 (m + 5) (g7A A row M' v)) (m + 9) = hAI h4 (m + 9) := by rw [e_sAI, if_neg (by omega)]
        rw [a10, a9]
        exact this
      · unfold mFin
        exact ((((((((R1.1.om).tr R2.1.om).tr R3.1.om).tr R4.1.om).tr (Om.AI _ _ (by omega))).tr (Om.AI _ _ (by omega))).tr (Om.AI _ _ (by omega))).tr (Om.I 32 _)).tr Om.tb
    · obtain ⟨u, hu⟩ := mn2.2.2.1
      exact absurd (hu.x W.1 (fun f hf => (x3 f hf).symm)) (nv u)
  · exact absurd ((K.1.2.2.1).x W.1 (fun f hf => (ox f hf).symm)) (nn M K.1.1 K.1.2.1)

/-! the reference's givers -/
def Ru (m : Nat) (h h' : MHp) : Prop := Rs m h h' ∧ hI h' = hI h ∧ ∀ a : Nat, a ≠ m + 14 → a ≠ m + 15 → hAI h' a = hAI h a
theorem Ru.rf {m : Nat} {h : MHp} : Ru m h h := ⟨Rs.rf, rfl, fun _ _ _ => rfl⟩
theorem Ru.tr {m : Nat} {h h1 h2 : MHp} (A : Ru m h h1) (B : Ru m h1 h2) : Ru m h h2 := ⟨A.1.tr B.1, B.2.1.trans A.2.1, fun c x y => (B.2.2 c x y).trans (A.2.2 c x y)⟩
theorem Ru.k {m k : Nat} {h : MHp} (g : Nat → Int32) (hk : k = 14 ∨ k = 15) : Ru m h (sAI h (m + k) g) := ⟨Rs.AI k g (by rcases hk with rfl | rfl <;> decide), rfl, fun c x y => by rw [e_sAI, if_neg (by rcases hk with rfl | rfl <;> assumption)]⟩
def Rg (m : Nat) (h h' : MHp) : Prop := Rs m h h' ∧ hI h' = hI h ∧ ∀ a : Nat, a ≠ m + 14 → a ≠ m + 15 → a ≠ m + 16 → hAI h' a = hAI h a
theorem Rg.rf {m : Nat} {h : MHp} : Rg m h h := ⟨Rs.rf, rfl, fun _ _ _ _ => rfl⟩
theorem Rg.tr {m : Nat} {h h1 h2 : MHp} (A : Rg m h h1) (B : Rg m h1 h2) : Rg m h h2 := ⟨A.1.tr B.1, B.2.1.trans A.2.1, fun c x y z => (B.2.2 c x y z).trans (A.2.2 c x y z)⟩
theorem Ru.g {m : Nat} {h h1 : MHp} (A : Ru m h h1) : Rg m h h1 := ⟨A.1, A.2.1, fun c x y _ => A.2.2 c x y⟩
theorem Rmn.u {m : Nat} {h h1 : MHp} (A : Rmn m h h1) : Ru m h h1 := ⟨A.1, A.2.1, fun c x _ => A.2.2 c x⟩
def gvR : Option Nat → Int32
  | none => -1
  | some u => Int32.ofNat u
theorem q_ulc {fu m : Nat} {h : MHp} {S must f : Nat} {a : Int32} {k : MHp → Nat → Int32 → Int32 → Int32 → Int32 → Option (Int32 × MHp)} (L : QL m h) (hf : f < 6) : mX16_unlike_b92 k h m (Int32.ofNat S) (Int32.ofNat must) a (Int32.ofNat f) = k (sAI h (m + 14) (va_up (hAI h (m + 14)) f (mixG S (hAI h (m + 13)) (hAI h (m + 15)) f))) m (Int32.ofNat S) (Int32.ofNat must) (if (!(S.testBit f) && !(decide (hAI h (m + 13) f = hAI h (m + 15) f))) = true then a + 1 else a) (Int32.ofNat (f + 1)) := by
  have bf := bad_n (k := f) (n := 6) (by omega) (by omega)
  have clf : (Int32.ofNat f).toNatClampNeg = f := cl_of (by omega)
  obtain ⟨X, hX⟩ : ∃ X : MHp, X = sAI h (m + 14) (va_up (hAI h (m + 14)) f (mixG S (hAI h (m + 13)) (hAI h (m + 15)) f)) := ⟨_, rfl⟩
  have SX : Ru m h X := by rw [hX]; exact Ru.k _ (Or.inl rfl)
  have LX := SX.1.QL L
  have x13 : hAI X (m + 13) = hAI h (m + 13) := by rw [hX, e_sAI, if_neg (by omega)]
  have x15 : hAI X (m + 15) = hAI h (m + 15) := by rw [hX, e_sAI, if_neg (by omega)]
  rw [← hX]
  by_cases s : S.testBit f = true
  · have hX' := hX
    unfold mixG at hX'
    rw [if_pos s] at hX'
    rw [mX16_unlike_b92, if_pos (by rw [b1_N (by omega)]; exact s), mX16_unlike_b107, b_gR, if_pos (qK0 L), qR30 L, if_neg n10, b_gR, if_pos (qK0 L), qR31 L, b_gAI, if_pos (qK15 L), qN15 L, if_neg bf, clf, mX16_unlike_b137, b_pAI, if_pos (qK14 L), qN14 L, if_neg bf, clf, ← hX', if_neg n10, mX16_unlike_b166, mX16_unlike_b167, Int32.add_zero, s1_of, s]
    rfl
  · have s' : S.testBit f = false := by simpa using s
    have hX' := hX
    unfold mixG at hX'
    rw [if_neg s] at hX'
    by_cases e : hAI h (m + 13) f = hAI h (m + 15) f
    · rw [mX16_unlike_b92, if_neg (by rw [b1_N (by omega)]; exact s), mX16_unlike_b107, b_gR, if_pos (qK0 L), qR30 L, if_pos rfl, b_gR, if_pos (qK0 L), qR29 L, b_gAI, if_pos (qK13 L), qN13 L, if_neg bf, clf, mX16_unlike_b137, b_pAI, if_pos (qK14 L), qN14 L, if_neg bf, clf, ← hX', if_pos rfl, b_gR, if_pos (qK0 LX), qR31 LX, b_gAI, if_pos (qK15 LX), qN15 LX, if_neg bf, clf, x15, b_gR, if_pos (qK0 LX), qR29 LX, b_gAI, if_pos (qK13 LX), qN13 LX, if_neg bf, clf, x13, if_pos e.symm, mX16_unlike_b166, mX16_unlike_b167, Int32.add_zero, s1_of, s', decide_eq_true e]
      rfl
    · rw [mX16_unlike_b92, if_neg (by rw [b1_N (by omega)]; exact s), mX16_unlike_b107, b_gR, if_pos (qK0 L), qR30 L, if_pos rfl, b_gR, if_pos (qK0 L), qR29 L, b_gAI, if_pos (qK13 L), qN13 L, if_neg bf, clf, mX16_unlike_b137, b_pAI, if_pos (qK14 L), qN14 L, if_neg bf, clf, ← hX', if_pos rfl, b_gR, if_pos (qK0 LX), qR31 LX, b_gAI, if_pos (qK15 LX), qN15 LX, if_neg bf, clf, x15, b_gR, if_pos (qK0 LX), qR29 LX, b_gAI, if_pos (qK13 LX), qN13 LX, if_neg bf, clf, x13, if_neg (fun hh => e hh.symm), mX16_unlike_b167, s1_of, s', decide_eq_false e]
      rfl
theorem q_ull {m b n row S must r : Nat} {A : AS} : ∀ (q f fu a : Nat) (h : MHp), RQ m b n h A → (∀ j : Nat, j < bF (aB A) → hAI h (m + 13) j = nvX A row j) → (∀ j : Nat, j < bF (aB A) → hAI h (m + 15) j = nvX A r j) → (∀ j : Nat, j < f → hAI h (m + 14) j = mixG S (nvX A row) (nvX A r) j) → f + q = bF (aB A) → q < fu → ∃ h1 : MHp, mX16_unlike_l56 fu h m (Int32.ofNat S) (Int32.ofNat must) (Int32.ofNat a) (Int32.ofNat f) = some (if (allF (fun f => !(must.testBit f && gp (nvX A r) f)) q f && decide (bB (aB A) (mixG S (nvX A row) (nvX A r)) = bN (aB A))) = true then Int32.ofNat (a + ctN (unF A row S r) q f) else -1, h1) ∧ Ru m h h1 := by
  intro q
  induction q with
  | zero =>
    intro f fu a h Q hw ht hm hf hfu
    obtain ⟨fu, rfl⟩ : ∃ g : Nat, fu = g + 1 := ⟨fu - 1, by omega⟩
    have L := Q.1.1
    obtain ⟨V, c1, c2, c3, c4, c5, c6, c7⟩ := id Q
    have f6 := c3.1
    have b12 := c3.2.1
    have eb := q_brokenRow Q (qK14 L) (qN14 L)
    rw [bB_congr c3 (y := mixG S (nvX A row) (nvX A r)) (fun j hj => hm j (by omega))] at eb
    have le := bB_le (aB A) (mixG S (nvX A row) (nvX A r))
    refine ⟨h, ?_, Ru.rf⟩
    rw [mX16_unlike_l56, b_gR, if_pos (qK0 L), c1, b_gI, if_pos c2.1.1, c2.2.1, if_pos (by rw [le_of (by omega) (by omega)]; omega), b_gR, if_pos (qK0 L), c1, b_gR, if_pos (qK0 L), qR30 L, b_rcv, if_pos c2.1.1, eb, o_bind, allF_0, Bool.true_and]
    by_cases g : bB (aB A) (mixG S (nvX A row) (nvX A r)) = bN (aB A)
    · rw [if_neg (show ¬ bB (aB A) (mixG S (nvX A row) (nvX A r)) < bN (aB A) by omega), if_pos rfl, decide_eq_true g, if_pos rfl]
      rfl
    · rw [if_pos (show bB (aB A) (mixG S (nvX A row) (nvX A r)) < bN (aB A) by omega), if_neg (nm_of (by omega)), decide_eq_false g, if_neg (by decide)]
  | succ q ih =>
    intro f fu a h Q hw ht hm hf hfu
    obtain ⟨fu, rfl⟩ : ∃ g : Nat, fu = g + 1 := ⟨fu - 1, by omega⟩
    have L := Q.1.1
    obtain ⟨V, c1, c2, c3, c4, c5, c6, c7⟩ := id Q
    have f6 := c3.1
    have bf := bad_n (k := f) (n := 6) (by omega) (by omega)
    have clf : (Int32.ofNat f).toNatClampNeg = f := cl_of (by omega)
    have stp := q_ulc (fu := fu) (S := S) (must := must) (f := f) (a := Int32.ofNat a) (k := mX16_unlike_l56 fu) L (by omega)
    obtain ⟨X, hX⟩ : ∃ X : MHp, X = sAI h (m + 14) (va_up (hAI h (m + 14)) f (mixG S (hAI h (m + 13)) (hAI h (m + 15)) f)) := ⟨_, rfl⟩
    have SX : Ru m h X := by rw [hX]; exact Ru.k _ (Or.inl rfl)
    have x13 : hAI X (m + 13) = hAI h (m + 13) := by rw [hX, e_sAI, if_neg (by omega)]
    have x15 : hAI X (m + 15) = hAI h (m + 15) := by rw [hX, e_sAI, if_neg (by omega)]
    have ea : (if (!(S.testBit f) && !(decide (hAI h (m + 13) f = hAI h (m + 15) f))) = true then Int32.ofNat a + 1 else Int32.ofNat a) = Int32.ofNat (a + (if unF A row S r f = true then 1 else 0)) := by
      rw [hw f (by omega), ht f (by omega)]
      show (if unF A row S r f = true then _ else _) = _
      by_cases u : unF A row S r f = true
      · rw [if_pos u, if_pos u, s1_of]
      · rw [if_neg u, if_neg u]; rfl
    obtain ⟨h1, e1, R1⟩ := ih (f + 1) fu (a + (if unF A row S r f = true then 1 else 0)) X (Q.sc SX.1) (fun j hj => by rw [x13]; exact hw j hj) (fun j hj => by rw [x15]; exact ht j hj) (fun j hj => by
      rw [hX, e_sAI, if_pos rfl, e_up]
      by_cases e : j = f
      · rw [if_pos e, e]
        unfold mixG
        rw [hw f (by omega), ht f (by omega)]
      · rw [if_neg e]; exact hm j (by omega)) (by omega) (by omega)
    rw [← hX, ea, e1] at stp
    have eg : (nvX A r f = -1) = (gp (nvX A r) f = true) := by unfold gp; rw [decide_eq_true_eq]
    have base : mX16_unlike_l56 (fu + 1) h m (Int32.ofNat S) (Int32.ofNat must) (Int32.ofNat a) (Int32.ofNat f) = if (must.testBit f && gp (nvX A r) f) = true then some (-1, h) else mX16_unlike_b92 (mX16_unlike_l56 fu) h m (Int32.ofNat S) (Int32.ofNat must) (Int32.ofNat a) (Int32.ofNat f) := by
      rw [mX16_unlike_l56, b_gR, if_pos (qK0 L), c1, b_gI, if_pos c2.1.1, c2.2.1, if_neg (by rw [le_of (by omega) (by omega)]; omega)]
      by_cases u : must.testBit f = true
      · rw [if_pos (by rw [b1_N (by omega)]; exact u), b_gR, if_pos (qK0 L), qR31 L, b_gAI, if_pos (qK15 L), qN15 L, if_neg bf, clf, ht f (by omega), u, Bool.true_and]
        by_cases g : nvX A r f = -1
        · rw [if_pos g, if_pos (eg ▸ g)]
        · rw [if_neg g, if_neg (fun hh => g (eg ▸ hh))]
      · rw [if_neg (by rw [b1_N (by omega)]; exact u), if_neg (fun hh => by rw [Bool.and_eq_true] at hh; exact u hh.1)]
    rw [allF_s]
    by_cases u : (must.testBit f && gp (nvX A r) f) = true
    · refine ⟨h, ?_, Ru.rf⟩
      rw [base, if_pos u, u]
      rfl
    · have u' : (must.testBit f && gp (nvX A r) f) = false := by simpa using u
      refine ⟨h1, ?_, SX.tr R1⟩
      rw [base, if_neg u, stp, u', ctN_s, Nat.add_assoc]
      rfl
theorem q_unlike {m b row S must r : Nat} {A : AS} {h : MHp} (Q : RQ m b (aN A 2) h A) (hrow : row < aN A 2) (hr : r < aN A 2) (hw : ∀ j : Nat, j < bF (aB A) → hAI h (m + 13) j = nvX A row j) : ∃ h1 : MHp, mX16_unlike h m (Int32.ofNat row) (Int32.ofNat r) (Int32.ofNat S) (Int32.ofNat must) = some (gvR (gvP A row S must r), h1) ∧ Ru m h h1 := by
  have L := Q.1.1
  obtain ⟨V, c1, c2, c3, c4, c5, c6, c7⟩ := id Q
  have f6 := c3.1
  have b12 := c3.2.1
  by_cases e : r = row
  · have pn : gvP A row S must r = none := by unfold gvP; rw [if_pos e]
    refine ⟨h, ?_, Ru.rf⟩
    rw [mX16_unlike, if_pos (by rw [e]), pn]; rfl
  · have ne : ¬ Int32.ofNat r = Int32.ofNat row := by rw [eq_of (by omega) (by omega)]; exact e
    have e0 := q_isThere V c5 hr (aS A 3)
    by_cases g1 : thA A r (aS A 3) = true
    · obtain ⟨X, hX⟩ : ∃ X : MHp, X = sAI h (m + 15) (rD A r (aS A 3) 0 (hAI h (m + 15))) := ⟨_, rfl⟩
      have e1 := q_loads Q hr (fil := 0) (by omega) (aS A 3) (k := 15) (by omega)
      have e1' : mX16_loads h m (Int32.ofNat r) (aS A 3) 0 (some (m + 15)) = some X := by rw [hX]; exact e1
      have SX : Ru m h X := by rw [hX]; exact Ru.k _ (Or.inr rfl)
      have QX := Q.sc SX.1
      have LX := QX.1.1
      have x13 : hAI X (m + 13) = hAI h (m + 13) := SX.2.2 _ (by omega) (by omega)
      have x15 : ∀ j : Nat, j < bF (aB A) → hAI X (m + 15) j = nvX A r j := fun j hj => by
        rw [hX, e_sAI, if_pos rfl]
        unfold rD
        rw [if_pos hj]
        rfl
      have eb := q_brokenRow QX (qK15 LX) (qN15 LX)
      rw [bB_congr c3 x15] at eb
      have le := bB_le (aB A) (nvX A r)
      have base : mX16_unlike h m (Int32.ofNat row) (Int32.ofNat r) (Int32.ofNat S) (Int32.ofNat must) = if bB (aB A) (nvX A r) = bN (aB A) then mX16_unlike_l56 FUEL X m (Int32.ofNat S) (Int32.ofNat must) 0 0 else some (-1, X) := by
        rw [mX16_unlike, if_neg ne, b_gI, if_pos (qK0 L), c6, b_rcv, if_pos (qK0 L), e0, o_bind, if_pos g1, if_neg n10, b_gI, if_pos (qK0 L), c6, b_gR, if_pos (qK0 L), qR31 L, b_rcv, if_pos (qK0 L), e1', o_bind, b_gR, if_pos (qK0 LX), QX.2.1, b_gR, if_pos (qK0 LX), qR31 LX, b_rcv, if_pos QX.2.2.1.1.1, eb, o_bind]
        by_cases g : bB (aB A) (nvX A r) = bN (aB A)
        · rw [if_neg (show ¬ bB (aB A) (nvX A r) < bN (aB A) by omega), if_pos rfl, if_pos g]
        · rw [if_pos (show bB (aB A) (nvX A r) < bN (aB A) by omega), if_neg (nm_of (by omega)), if_neg g]
      by_cases g : bB (aB A) (nvX A r) = bN (aB A)
      · obtain ⟨h1, e2, R1⟩ := q_ull (S := S) (must := must) (bF (aB A)) 0 FUEL 0 X QX (fun j hj => by rw [x13]; exact hw j hj) x15 (fun j hj => absurd hj (Nat.not_lt_zero _)) (by omega) (by unfold FUEL; omega)
        have e2' : mX16_unlike_l56 FUEL X m (Int32.ofNat S) (Int32.ofNat must) 0 0 = _ := e2
        refine ⟨h1, ?_, SX.tr R1⟩
        rw [base, if_pos g, e2']
        unfold gvP gvB
        rw [if_neg e, g1, Bool.true_and, decide_eq_true g, Bool.true_and]
        by_cases z : (allF (fun f => !(must.testBit f && gp (nvX A r) f)) (bF (aB A)) 0 && decide (bB (aB A) (mixG S (nvX A row) (nvX A r)) = bN (aB A))) = true
        · rw [if_pos z, if_pos z]
          unfold gvR unN
          rw [Nat.zero_add]
        · rw [if_neg z, if_neg z]
          rfl
      · have gb : gvB A row S must r = false := by
          unfold gvB
          rw [decide_eq_false g, Bool.false_and, Bool.and_false, Bool.and_false]
        have pn : gvP A row S must r = none := by unfold gvP; rw [if_neg e, gb, if_neg (by decide)]
        refine ⟨X, ?_, SX⟩
        rw [base, if_neg g, pn]; rfl
    · have g1' : thA A r (aS A 3) = false := by simpa using g1
      have gb : gvB A row S must r = false := by unfold gvB; rw [g1', Bool.false_and]
      have pn : gvP A row S must r = none := by unfold gvP; rw [if_neg e, gb, if_neg (by decide)]
      refine ⟨h, ?_, Ru.rf⟩
      rw [mX16_unlike, if_neg ne, b_gI, if_pos (qK0 L), c6, b_rcv, if_pos (qK0 L), e0, o_bind, if_neg g1, if_pos rfl, pn]; rfl
/-- the giver, or none -/
def giv (P : Nat → Option Nat) (n : Nat) : Int32 := if (gvs P n).1 = 0 then -2 else Int32.ofNat ((gvs P n).2.2 0)
theorem giv_n {P : Nat → Option Nat} {r : Nat} (e : P r = none) : giv P (r + 1) = giv P r := by
  unfold giv; rw [gvs_n e]
theorem q_mgv {m b row M : Nat} {A : AS} (W : WA A) (hrow : row < aN A 2) : ∀ (q r fu : Nat) (x4 : Int32) (h : MHp), RQ m b (aN A 2) h A → (∀ j : Nat, j < bF (aB A) → hAI h (m + 13) j = nvX A row j) → (¬ (gvs (gvP A row M M) r).1 = 0 → x4 = Int32.ofNat (gvs (gvP A row M M) r).2.1) → r + q = aN A 2 → q < fu → ∃ h1 : MHp, mX16_mend_l245 fu h m (Int32.ofNat row) (Int32.ofNat M) (giv (gvP A row M M) r) x4 (Int32.ofNat r) = mX16_mend_l301 FUEL h1 m (Int32.ofNat row) (Int32.ofNat M) (giv (gvP A row M M) (aN A 2)) 0 ∧ Ru m h h1 := by
  have n60 := W.2.2.2.1
  intro q
  induction q with
  | zero =>
    intro r fu x4 h Q hw hx hr hfu
    obtain ⟨fu, rfl⟩ : ∃ g : Nat, fu = g + 1 := ⟨fu - 1, by omega⟩
    have L := Q.1.1
    have : r = aN A 2 := by omega
    subst this
    refine ⟨h, ?_, Ru.rf⟩
    rw [mX16_mend_l245, b_gI, if_pos (qK0 L), Q.2.2.2.2.1, if_pos (by rw [le_of (by omega) (by omega)]; omega)]
  | succ q ih =>
    intro r fu x4 h Q hw hx hr hfu
    obtain ⟨fu, rfl⟩ : ∃ g : Nat, fu = g + 1 := ⟨fu - 1, by omega⟩
    have L := Q.1.1
    have I := gvs_I (P := gvP A row M M) (gvP_6 W) r
    obtain ⟨h1, e1, R1⟩ := q_unlike (S := M) (must := M) Q hrow (show r < aN A 2 by omega) hw
    have Q1 := Q.sc R1.1
    have hw1 : ∀ j : Nat, j < bF (aB A) → hAI h1 (m + 13) j = nvX A row j := fun j hj => by rw [R1.2.2 (m + 13) (by omega) (by omega), hw j hj]
    have base : mX16_mend_l245 (fu + 1) h m (Int32.ofNat row) (Int32.ofNat M) (giv (gvP A row M M) r) x4 (Int32.ofNat r) = (if gvR (gvP A row M M r) = (-1) then mX16_mend_l245 fu h1 m (Int32.ofNat row) (Int32.ofNat M) (giv (gvP A row M M) r) x4 (Int32.ofNat (r + 1)) else (if giv (gvP A row M M) r < 0 then mX16_mend_l245 fu h1 m (Int32.ofNat row) (Int32.ofNat M) (Int32.ofNat r) (gvR (gvP A row M M r)) (Int32.ofNat (r + 1)) else (if gvR (gvP A row M M r) < x4 then mX16_mend_l245 fu h1 m (Int32.ofNat row) (Int32.ofNat M) (Int32.ofNat r) (gvR (gvP A row M M r)) (Int32.ofNat (r + 1)) else mX16_mend_l245 fu h1 m (Int32.ofNat row) (Int32.ofNat M) (giv (gvP A row M M) r) x4 (Int32.ofNat (r + 1))))) := by
      rw [mX16_mend_l245, b_gI, if_pos (qK0 L), Q.2.2.2.2.1, if_neg (by rw [le_of (by omega) (by omega)]; omega), b_rcv, if_pos (qK0 L), e1, o_bind, mX16_mend_b292, mX16_mend_b285, mX16_mend_b292, s1_of]
    cases pe : gvP A row M M r with
    | none =>
      rw [pe, if_pos (show gvR none = -1 from rfl)] at base
      obtain ⟨h2, e2, R2⟩ := ih (r + 1) fu x4 h1 Q1 hw1 (by rw [gvs_n pe]; exact hx) (by omega) (by omega)
      rw [giv_n pe] at e2
      exact ⟨h2, by rw [base, e2], R1.tr R2⟩
    | some u =>
      have u6 := gvP_6 W _ _ pe
      have gs := gvs_s pe
      rw [pe, if_neg (show ¬ gvR (some u) = -1 from nm_of (by omega))] at base
      have fin : giv (gvP A row M M) (r + 1) = Int32.ofNat r → (gvs (gvP A row M M) (r + 1)).2.1 = u → ∃ h2 : MHp, mX16_mend_l245 fu h1 m (Int32.ofNat row) (Int32.ofNat M) (Int32.ofNat r) (gvR (some u)) (Int32.ofNat (r + 1)) = mX16_mend_l301 FUEL h2 m (Int32.ofNat row) (Int32.ofNat M) (giv (gvP A row M M) (aN A 2)) 0 ∧ Ru m h h2 := fun y1 y2 => by
        obtain ⟨h2, e2, R2⟩ := ih (r + 1) fu (gvR (some u)) h1 Q1 hw1 (fun _ => by rw [y2]; rfl) (by omega) (by omega)
        rw [y1] at e2
        exact ⟨h2, e2, R1.tr R2⟩
      rcases I with ⟨z1, z2⟩ | ⟨z1, z2, z3, z4⟩
      · have gz : giv (gvP A row M M) r = -2 := by unfold giv; rw [if_pos z1]
        rw [if_pos (by omega)] at gs
        have y1 : giv (gvP A row M M) (r + 1) = Int32.ofNat r := by
          unfold giv
          rw [gs]
          show (if 1 = 0 then (-2 : Int32) else Int32.ofNat (va_up (gvs (gvP A row M M) r).2.2 0 r 0)) = _
          rw [if_neg (by decide), e_up, if_pos rfl]
        obtain ⟨h2, e2, R2⟩ := fin y1 (by rw [gs])
        refine ⟨h2, ?_, R2⟩
        rw [base, gz, if_pos (by decide), e2]
      · have gz : giv (gvP A row M M) r = Int32.ofNat ((gvs (gvP A row M M) r).2.2 0) := by unfold giv; rw [if_neg (by omega)]
        have l0 := (z4 0 (by omega)).1
        rw [gz, if_neg (nlt0 (by omega)), hx (by omega)] at base
        rw [gz, hx (by omega)]
        have lt : (gvR (some u) < Int32.ofNat (gvs (gvP A row M M) r).2.1) = (u < (gvs (gvP A row M M) r).2.1) := by
          show (Int32.ofNat u < Int32.ofNat (gvs (gvP A row M M) r).2.1) = _
          rw [← Int32.not_le, le_of (by omega) (by omega)]
          exact propext Nat.not_le
        by_cases g : u < (gvs (gvP A row M M) r).2.1
        · rw [if_pos (by rw [lt]; exact g)] at base
          rw [if_pos g] at gs
          have y1 : giv (gvP A row M M) (r + 1) = Int32.ofNat r := by
            unfold giv
            rw [gs]
            show (if 1 = 0 then (-2 : Int32) else Int32.ofNat (va_up (gvs (gvP A row M M) r).2.2 0 r 0)) = _
            rw [if_neg (by decide), e_up, if_pos rfl]
          obtain ⟨h2, e2, R2⟩ := fin y1 (by rw [gs])
          exact ⟨h2, by rw [base, e2], R2⟩
        · rw [if_neg (by rw [lt]; exact g)] at base
          rw [if_neg g] at gs
          have y1 : giv (gvP A row M M) (r + 1) = giv (gvP A row M M) r ∧ (gvs (gvP A row M M) (r + 1)).2.1 = (gvs (gvP A row M M) r).2.1 := by
            by_cases g2 : u = (gvs (gvP A row M M) r).2.1
            · rw [if_pos g2] at gs
              refine ⟨?_, by rw [gs]; exact g2⟩
              unfold giv
              rw [gs]
              show (if (gvs (gvP A row M M) r).1 + 1 = 0 then (-2 : Int32) else Int32.ofNat (va_up (gvs (gvP A row M M) r).2.2 (gvs (gvP A row M M) r).1 r 0)) = _
              rw [if_neg (by omega), if_neg (by omega), e_up, if_neg (by omega)]
            · rw [if_neg g2] at gs
              unfold giv
              rw [gs]
              exact ⟨rfl, rfl⟩
          obtain ⟨h2, e2, R2⟩ := ih (r + 1) fu (Int32.ofNat (gvs (gvP A row M M) r).2.1) h1 Q1 hw1 (fun _ => by rw [y1.2]) (by omega) (by omega)
          rw [y1.1, gz] at e2
          exact ⟨h2, by rw [base, e2], R1.tr R2⟩

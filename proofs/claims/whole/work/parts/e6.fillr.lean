/-! fill: the reference's -/
theorem RV.g8 {m n : Nat} {h : MHp} {A : AS} (g : Nat → Int32) (V : RV m n h A) : RV m n (sAI h (m + 6) g) (setA A 8 g) := by
  obtain ⟨L, c1, c2, c3, c4, c5, c6⟩ := V
  refine ⟨L, ?_, ?_, ?_, ?_, ?_, fun r hr => ?_⟩
  · rw [e_sAI, if_neg (by omega)]; exact c1
  · rw [e_sAI, if_neg (by omega)]; exact c2
  · rw [e_sAI, if_pos rfl]; rfl
  · rw [e_sAI, if_neg (by omega)]; exact c4
  · rw [e_sAI, if_neg (by omega)]; exact c5
  · rw [e_sAI, if_neg (by omega), e_sAI, if_neg (by omega), e_sAI, if_neg (by omega)]; exact c6 r hr
theorem vA_g8 {A : AS} {r f fil : Nat} {d : Int32} {g : Nat → Int32} (e : g (6 * (5 * r + fil) + f) = aA A 8 (6 * (5 * r + fil) + f)) : vA (setA A 8 g) r f d fil = vA A r f d fil := by
  unfold vA
  show (if (sn (aA A 3 r) d && mb (aA A 9 r) f) = true then aA A 7 (r * 6 + f) else if aA A 6 (r * 6 + f) = -1 then (if sn (aA A 4 r) d = true then g (6 * (5 * r + fil) + f) else -1) else aA A 6 (r * 6 + f)) = _
  rw [e]
/-- the mask of gaps -/
theorem q_gmask {m b row : Nat} {A : AS} {v1 v2 : Int32} {h : MHp} (Q : RQ m b (aN A 2) h A) (hw : ∀ j : Nat, j < bF (aB A) → hAI h (m + 13) j = nvX A row j) : ∀ (q f fu : Nat) (a : Int32), f + q = bF (aB A) → q < fu → mX16_fill_l107 fu h m v1 v2 a (Int32.ofNat f) = mX16_fill_l156 FUEL h m v1 v2 (ms (gp (nvX A row)) q f a) 0 0 0 := by
  intro q
  have L := Q.1.1
  obtain ⟨V, c1, c2, c3, c4, c5, c6, c7⟩ := id Q
  have f6 := c3.1
  induction q with
  | zero =>
    intro f fu a hf hfu
    obtain ⟨fu, rfl⟩ : ∃ g : Nat, fu = g + 1 := ⟨fu - 1, by omega⟩
    rw [mX16_fill_l107, b_gR, if_pos (qK0 L), c1, b_gI, if_pos c2.1.1, c2.2.1, if_pos (by rw [le_of (by omega) (by omega)]; omega), ms_0]
  | succ q ih =>
    intro f fu a hf hfu
    obtain ⟨fu, rfl⟩ : ∃ g : Nat, fu = g + 1 := ⟨fu - 1, by omega⟩
    have bf := bad_n (k := f) (n := 6) (by omega) (by omega)
    have clf : (Int32.ofNat f).toNatClampNeg = f := cl_of (by omega)
    rw [mX16_fill_l107, b_gR, if_pos (qK0 L), c1, b_gI, if_pos c2.1.1, c2.2.1, if_neg (by rw [le_of (by omega) (by omega)]; omega), b_gR, if_pos (qK0 L), qR29 L, b_gAI, if_pos (qK13 L), qN13 L, if_neg bf, clf, hw f (by omega), ms_s]
    by_cases g : nvX A row f = -1
    · rw [if_pos g, mX16_fill_b139, s1_of, ih (f + 1) fu _ (by omega) (by omega), if_pos (show gp (nvX A row) f = true from decide_eq_true g)]
    · rw [if_neg g, mX16_fill_b139, s1_of, Int32.or_zero, ih (f + 1) fu _ (by omega) (by omega), if_neg (show ¬ gp (nvX A row) f = true from fun hh => g (of_decide_eq_true hh))]
/-- the givers -/
theorem q_fgv {m b row lot : Nat} {A : AS} (W : WA A) (hrow : row < aN A 2) : ∀ (q r fu : Nat) (x5 : Int32) (h : MHp), RQ m b (aN A 2) h A → (∀ j : Nat, j < bF (aB A) → hAI h (m + 13) j = nvX A row j) → (¬ (gvs (fP A row) r).1 = 0 → x5 = Int32.ofNat (gvs (fP A row) r).2.1) → (∀ i : Nat, i < (gvs (fP A row) r).1 → hAI h (m + 16) i = Int32.ofNat ((gvs (fP A row) r).2.2 i)) → r + q = aN A 2 → q < fu → ∃ h1 : MHp, mX16_fill_l156 fu h m (Int32.ofNat row) (Int32.ofNat lot) (Int32.ofNat (gpN A row)) (Int32.ofNat (gvs (fP A row) r).1) x5 (Int32.ofNat r) = (if fC A row = 0 then (mX16_refused h1 m 6).bind (fun r24 => some (r24.1, r24.2)) else mX16_fill_l259 FUEL h1 m (Int32.ofNat row) (Int32.ofNat lot) (Int32.ofNat (fC A row)) 0) ∧ Rg m h h1 ∧ ∀ i : Nat, i < fC A row → hAI h1 (m + 16) i = Int32.ofNat ((gvs (fP A row) (aN A 2)).2.2 i) := by
  have n60 := W.2.2.2.1
  intro q
  induction q with
  | zero =>
    intro r fu x5 h Q hw hx hg hr hfu
    obtain ⟨fu, rfl⟩ : ∃ g : Nat, fu = g + 1 := ⟨fu - 1, by omega⟩
    have L := Q.1.1
    have : r = aN A 2 := by omega
    subst this
    refine ⟨h, ?_, Rg.rf, hg⟩
    have c60 : fC A row ≤ aN A 2 := by
      unfold fC
      rcases gvs_I (P := fP A row) (gvP_6 W) (aN A 2) with I | I <;> omega
    show mX16_fill_l156 (fu + 1) h m (Int32.ofNat row) (Int32.ofNat lot) (Int32.ofNat (gpN A row)) (Int32.ofNat (fC A row)) x5 (Int32.ofNat (aN A 2)) = _
    rw [mX16_fill_l156, b_gI, if_pos (qK0 L), Q.2.2.2.2.1, if_pos (by rw [le_of (by omega) (by omega)]; omega)]
    by_cases z : fC A row = 0
    · rw [if_pos z, if_pos (by rw [z]; rfl), b_rcv, if_pos (qK0 L)]
    · rw [if_neg z, if_neg (by rw [show (0 : Int32) = Int32.ofNat 0 from rfl, eq_of (by omega) (by omega)]; exact z)]
  | succ q ih =>
    intro r fu x5 h Q hw hx hg hr hfu
    obtain ⟨fu, rfl⟩ : ∃ g : Nat, fu = g + 1 := ⟨fu - 1, by omega⟩
    have L := Q.1.1
    have I := gvs_I (P := fP A row) (gvP_6 W) r
    obtain ⟨h1, e1, R1⟩ := q_unlike (S := gpN A row) (must := 2 ^ bF (aB A) - 1) Q hrow (show r < aN A 2 by omega) hw
    have Q1 := Q.sc R1.1
    have L1 := Q1.1.1
    have hw1 : ∀ j : Nat, j < bF (aB A) → hAI h1 (m + 13) j = nvX A row j := fun j hj => by rw [R1.2.2 (m + 13) (by omega) (by omega), hw j hj]
    have g16 : hAI h1 (m + 16) = hAI h (m + 16) := R1.2.2 (m + 16) (by omega) (by omega)
    have e1' : mX16_unlike h m (Int32.ofNat row) (Int32.ofNat r) (Int32.ofNat (gpN A row)) (Int32.ofNat (2 ^ bF (aB A) - 1)) = some (gvR (fP A row r), h1) := e1
    have ct60 : (gvs (fP A row) r).1 < 60 := by rcases I with I | I <;> omega
    have f7 : (gvs (fP A row) r).2.1 ≤ 7 := by rcases I with I | I <;> omega
    have base : mX16_fill_l156 (fu + 1) h m (Int32.ofNat row) (Int32.ofNat lot) (Int32.ofNat (gpN A row)) (Int32.ofNat (gvs (fP A row) r).1) x5 (Int32.ofNat r) = (if gvR (fP A row r) = (-1) then mX16_fill_b238 (mX16_fill_l156 fu) h1 m (Int32.ofNat row) (Int32.ofNat lot) (Int32.ofNat (gpN A row)) (Int32.ofNat (gvs (fP A row) r).1) x5 (Int32.ofNat r) else (if Int32.ofNat (gvs (fP A row) r).1 ≤ 0 then mX16_fill_b207 (mX16_fill_l156 fu) h1 m (Int32.ofNat row) (Int32.ofNat lot) (Int32.ofNat (gpN A row)) (Int32.ofNat (gvs (fP A row) r).1) x5 (Int32.ofNat r) (gvR (fP A row r)) else (if gvR (fP A row r) ≤ x5 then mX16_fill_b207 (mX16_fill_l156 fu) h1 m (Int32.ofNat row) (Int32.ofNat lot) (Int32.ofNat (gpN A row)) (Int32.ofNat (gvs (fP A row) r).1) x5 (Int32.ofNat r) (gvR (fP A row r)) else mX16_fill_b238 (mX16_fill_l156 fu) h1 m (Int32.ofNat row) (Int32.ofNat lot) (Int32.ofNat (gpN A row)) (Int32.ofNat (gvs (fP A row) r).1) x5 (Int32.ofNat r)))) := by
      rw [mX16_fill_l156, b_gI, if_pos (qK0 L), Q.2.2.2.2.1, if_neg (by rw [le_of (by omega) (by omega)]; omega), b_gR, if_pos (qK0 L), Q.2.1, b_gI, if_pos Q.2.2.1.1.1, Q.2.2.1.2.1, all_N W.1.1, b_rcv, if_pos (qK0 L), e1', o_bind]
    -- a write into the givers
    have put : ∀ (ct u : Nat) (y5 : Int32), ct < 60 → (gvs (fP A row) (r + 1)).1 = ct + 1 → (gvs (fP A row) (r + 1)).2.1 = u → y5 = Int32.ofNat u → (∀ i : Nat, i < ct + 1 → va_up (hAI h1 (m + 16)) ct (Int32.ofNat r) i = Int32.ofNat ((gvs (fP A row) (r + 1)).2.2 i)) → ∃ h2 : MHp, mX16_fill_b222 (mX16_fill_l156 fu) h1 m (Int32.ofNat row) (Int32.ofNat lot) (Int32.ofNat (gpN A row)) (Int32.ofNat ct) (Int32.ofNat r) y5 = (if fC A row = 0 then (mX16_refused h2 m 6).bind (fun r24 => some (r24.1, r24.2)) else mX16_fill_l259 FUEL h2 m (Int32.ofNat row) (Int32.ofNat lot) (Int32.ofNat (fC A row)) 0) ∧ Rg m h h2 ∧ ∀ i : Nat, i < fC A row → hAI h2 (m + 16) i = Int32.ofNat ((gvs (fP A row) (aN A 2)).2.2 i) := fun ct u y5 hct a1 a2 a3 a4 => by
      obtain ⟨X, hX⟩ : ∃ X : MHp, X = sAI h1 (m + 16) (va_up (hAI h1 (m + 16)) ct (Int32.ofNat r)) := ⟨_, rfl⟩
      have SX : Rg m h1 X := by rw [hX]; exact ⟨Rs.AI 16 _ (by decide), rfl, fun c x y z => by rw [e_sAI, if_neg z]⟩
      obtain ⟨h2, e2, R2, t2⟩ := ih (r + 1) fu y5 X (Q1.sc SX.1) (fun j hj => by rw [SX.2.2 (m + 13) (by omega) (by omega) (by omega), hw1 j hj]) (fun _ => by rw [a2]; exact a3) (fun i hi => by
        rw [a1] at hi
        rw [hX, e_sAI, if_pos rfl]
        exact a4 i hi) (by omega) (by omega)
      rw [a1] at e2
      refine ⟨h2, ?_, (R1.g.tr SX).tr R2, t2⟩
      rw [mX16_fill_b222, b_gR, if_pos (qK0 L1), qR33 L1, b_pAI, if_pos (qK16 L1), qN16 L1, if_neg (bad_n hct (by omega)), cl_of (by omega), ← hX, mX16_fill_b238, s1_of, s1_of, e2]
    have skip : gvs (fP A row) (r + 1) = gvs (fP A row) r → ∃ h2 : MHp, mX16_fill_b238 (mX16_fill_l156 fu) h1 m (Int32.ofNat row) (Int32.ofNat lot) (Int32.ofNat (gpN A row)) (Int32.ofNat (gvs (fP A row) r).1) x5 (Int32.ofNat r) = (if fC A row = 0 then (mX16_refused h2 m 6).bind (fun r24 => some (r24.1, r24.2)) else mX16_fill_l259 FUEL h2 m (Int32.ofNat row) (Int32.ofNat lot) (Int32.ofNat (fC A row)) 0) ∧ Rg m h h2 ∧ ∀ i : Nat, i < fC A row → hAI h2 (m + 16) i = Int32.ofNat ((gvs (fP A row) (aN A 2)).2.2 i) := fun es => by
      obtain ⟨h2, e2, R2, t2⟩ := ih (r + 1) fu x5 h1 Q1 hw1 (by rw [es]; exact hx) (fun i hi => by rw [es] at hi ⊢; rw [g16, hg i hi]) (by omega) (by omega)
      rw [es] at e2
      exact ⟨h2, by rw [mX16_fill_b238, s1_of, e2], R1.g.tr R2, t2⟩
    cases pe : fP A row r with
    | none =>
      rw [pe, if_pos (show gvR none = -1 from rfl)] at base
      obtain ⟨h2, e2, R2, t2⟩ := skip (gvs_n pe)
      exact ⟨h2, by rw [base, e2], R2, t2⟩
    | some u =>
      have u6 : u ≤ 6 := gvP_6 W _ _ pe
      have gs := gvs_s pe
      rw [pe, if_neg (show ¬ gvR (some u) = -1 from nm_of (by omega))] at base
      have le0 : (Int32.ofNat (gvs (fP A row) r).1 ≤ 0) = ((gvs (fP A row) r).1 = 0) := by
        rw [show (0 : Int32) = Int32.ofNat 0 from rfl, le_of (by omega) (by omega)]
        exact propext Nat.le_zero
      have eq0 : (Int32.ofNat (gvs (fP A row) r).1 = 0) = ((gvs (fP A row) r).1 = 0) := by
        rw [show (0 : Int32) = Int32.ofNat 0 from rfl, eq_of (by omega) (by omega)]
      have new : u < (gvs (fP A row) r).2.1 → ∃ h2 : MHp, mX16_fill_b222 (mX16_fill_l156 fu) h1 m (Int32.ofNat row) (Int32.ofNat lot) (Int32.ofNat (gpN A row)) (Int32.ofNat 0) (Int32.ofNat r) (gvR (some u)) = (if fC A row = 0 then (mX16_refused h2 m 6).bind (fun r24 => some (r24.1, r24.2)) else mX16_fill_l259 FUEL h2 m (Int32.ofNat row) (Int32.ofNat lot) (Int32.ofNat (fC A row)) 0) ∧ Rg m h h2 ∧ ∀ i : Nat, i < fC A row → hAI h2 (m + 16) i = Int32.ofNat ((gvs (fP A row) (aN A 2)).2.2 i) := fun lt => by
        rw [if_pos lt] at gs
        exact put 0 u (gvR (some u)) (by omega) (by rw [gs]) (by rw [gs]) rfl (fun i hi => by
          rw [gs]
          show va_up (hAI h1 (m + 16)) 0 (Int32.ofNat r) i = Int32.ofNat (va_up (gvs (fP A row) r).2.2 0 r i)
          rw [e_up, e_up, if_pos (by omega), if_pos (by omega)])
      rcases I with ⟨z1, z2⟩ | ⟨z1, z2, z3, z4⟩
      · rw [if_pos (by rw [le0]; exact z1), mX16_fill_b207, if_pos (by rw [eq0]; exact z1), mX16_fill_b219] at base
        obtain ⟨h2, e2, R2, t2⟩ := new (by omega)
        exact ⟨h2, by rw [base]; exact e2, R2, t2⟩
      · have ex := hx (by omega)
        rw [if_neg (by rw [le0]; omega), ex] at base
        have le : (gvR (some u) ≤ Int32.ofNat (gvs (fP A row) r).2.1) = (u ≤ (gvs (fP A row) r).2.1) := by
          show (Int32.ofNat u ≤ Int32.ofNat (gvs (fP A row) r).2.1) = _
          rw [le_of (by omega) (by omega)]
        have ge : (Int32.ofNat (gvs (fP A row) r).2.1 ≤ gvR (some u)) = ((gvs (fP A row) r).2.1 ≤ u) := by
          show (Int32.ofNat (gvs (fP A row) r).2.1 ≤ Int32.ofNat u) = _
          rw [le_of (by omega) (by omega)]
        rw [ex] at skip
        rw [ex]
        by_cases g : u ≤ (gvs (fP A row) r).2.1
        · rw [if_pos (by rw [le]; exact g), mX16_fill_b207, if_neg (by rw [eq0]; omega)] at base
          by_cases g2 : u = (gvs (fP A row) r).2.1
          · rw [if_pos (by rw [ge]; omega)] at base
            rw [if_neg (by omega), if_pos g2] at gs
            obtain ⟨h2, e2, R2, t2⟩ := put (gvs (fP A row) r).1 u (gvR (some u)) ct60 (by rw [gs]) (by rw [gs]) rfl (fun i hi => by
              rw [gs]
              show va_up (hAI h1 (m + 16)) (gvs (fP A row) r).1 (Int32.ofNat r) i = Int32.ofNat (va_up (gvs (fP A row) r).2.2 (gvs (fP A row) r).1 r i)
              rw [e_up, e_up]
              by_cases q : i = (gvs (fP A row) r).1
              · rw [if_pos q, if_pos q]
              · rw [if_neg q, if_neg q, g16, hg i (by omega)])
            exact ⟨h2, by rw [base, e2], R2, t2⟩
          · rw [if_neg (by rw [ge]; omega), mX16_fill_b219] at base
            obtain ⟨h2, e2, R2, t2⟩ := new (by omega)
            exact ⟨h2, by rw [base]; exact e2, R2, t2⟩
        · rw [if_neg (by rw [le]; exact g)] at base
          rw [if_neg (by omega), if_neg (by omega)] at gs
          obtain ⟨h2, e2, R2, t2⟩ := skip gs
          exact ⟨h2, by rw [base, e2], R2, t2⟩

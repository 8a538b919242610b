/-! the class's step whole -/
theorem kk23 {k s e : Nat} {v : Int32} {l : List Nat} {P : Prop} (h : ¬ (k = 2 ∨ k = 3)) (hh : kK (mkT k s e v l) = 2 ∨ kK (mkT k s e v l) = 3) : P := absurd hh h
theorem kk1 {k s e : Nat} {v : Int32} {l : List Nat} {P : Prop} (h : ¬ k = 1) (hh : kK (mkT k s e v l) = 1) : P := absurd hh h
theorem run_b {P : Int32 → Bool} {g : Nat → Int32} {n p : Nat} (hp : p ≤ n) : p ≤ run P g n p ∧ run P g n p ≤ n := run_le (n - p) p (by omega)
theorem sub_of {a b : Nat} (h : b ≤ a) : Int32.ofNat a - Int32.ofNat b = Int32.ofNat (a - b) := by
  have e : Int32.ofNat a = Int32.ofNat (a - b) + Int32.ofNat b := by rw [← Int32.ofNat_add, show a - b + b = a by omega]
  rw [e, Int32.add_sub_cancel]
theorem le0_of {k : Nat} (h : k < 2147483648) : (Int32.ofNat k ≤ 0) = (k = 0) := by
  rw [show (0 : Int32) = Int32.ofNat 0 from rfl, le_of h (by omega)]
  exact propext Nat.le_zero
theorem lt_of' {a b : Nat} (ha : a < 2147483648) (hb : b < 2147483648) : (Int32.ofNat a < Int32.ofNat b) = (a < b) := by
  rw [← Int32.not_le, le_of hb ha]
  exact propext Nat.not_le
theorem p_takeSign {c n s : Nat} {x : Int32} {h : MHp} (L : CL c h) (h3 : hI h (c + 55) 3 = Int32.ofNat n) (hn : n ≤ 500) (h2 : hI h (c + 55) 2 = Int32.ofNat s) (hs : s ≤ n) : ∃ h1 : MHp, mX8_takeSign h (c + 55) x = some h1 ∧ Sp c h h1 ∧ hI h1 (c + 55) 2 = Int32.ofNat s ∧ hI h1 (c + 55) 5 = (if s < n then (if pSg x = true then 3 else 4) else 0) ∧ (s < n → hI h1 (c + 55) 4 = Int32.ofNat (s + 1) ∧ hI h1 (c + 55) 6 = x) ∧ (¬ s < n → hI h1 (c + 55) 4 = hI h (c + 55) 4) ∧ hL h1 = hL h := by
  have K := lK55 L
  by_cases e : s < n
  · obtain ⟨X, hX⟩ : ∃ X : MHp, X = sI h (c + 55) 4 (Int32.ofNat (s + 1)) := ⟨_, rfl⟩
    obtain ⟨Y, hY⟩ : ∃ Y : MHp, Y = sI X (c + 55) 6 x := ⟨_, rfl⟩
    have SX : Sp c h X := by rw [hX]; exact Sp.I 4 _ (by decide) (by decide)
    have SY : Sp c X Y := by rw [hY]; exact Sp.I 6 _ (by decide) (by decide)
    have KX := lK55 (SX.CL L)
    have KY := lK55 ((SX.tr SY).CL L)
    have y6 : hI Y (c + 55) 6 = x := by rw [hY, e_Iself]
    have y4 : hI Y (c + 55) 4 = Int32.ofNat (s + 1) := by rw [hY, e_sI, if_neg (by omega), hX, e_Iself]
    have y2 : hI Y (c + 55) 2 = Int32.ofNat s := by rw [hY, e_sI, if_neg (by omega), hX, e_sI, if_neg (by omega)]; exact h2
    have yL : hL Y = hL h := by rw [hY, hX]; rfl
    have fin : ∀ v : Int32, (if pSg x = true then (3 : Int32) else 4) = v → ∃ h1 : MHp, mX8_takeSign_b83 Y (some (c + 55)) v = some h1 ∧ Sp c h h1 ∧ hI h1 (c + 55) 2 = Int32.ofNat s ∧ hI h1 (c + 55) 5 = (if s < n then (if pSg x = true then 3 else 4) else 0) ∧ (s < n → hI h1 (c + 55) 4 = Int32.ofNat (s + 1) ∧ hI h1 (c + 55) 6 = x) ∧ (¬ s < n → hI h1 (c + 55) 4 = hI h (c + 55) 4) ∧ hL h1 = hL h := fun v ev => by
      refine ⟨sI Y (c + 55) 5 v, ?_, (SX.tr SY).tr (Sp.I 5 _ (by decide) (by decide)), by rw [e_sI, if_neg (by omega)]; exact y2, by rw [e_Iself, if_pos e, ev], fun _ => ⟨by rw [e_sI, if_neg (by omega)]; exact y4, by rw [e_sI, if_neg (by omega)]; exact y6⟩, fun hh => absurd e hh, yL⟩
      rw [mX8_takeSign_b83, b_pI, if_pos KY]
    have base : mX8_takeSign h (c + 55) x = if x = 59 then mX8_takeSign_b83 Y (some (c + 55)) 3 else if x = 44 then mX8_takeSign_b83 Y (some (c + 55)) 3 else if x = 61 then mX8_takeSign_b83 Y (some (c + 55)) 3 else if x = 60 then mX8_takeSign_b83 Y (some (c + 55)) 3 else if x = 62 then mX8_takeSign_b83 Y (some (c + 55)) 3 else mX8_takeSign_b83 Y (some (c + 55)) 4 := by
      rw [mX8_takeSign, b_gI, if_pos K, b_gI, if_pos K, h2, h3, if_pos (by rw [lt_of' (by omega) (by omega)]; exact e), b_gI, if_pos K, h2, s1_of, b_pI, if_pos K, ← hX, b_pI, if_pos KX, ← hY, b_gI, if_pos KY, y6, b_gI, if_pos KY, y6, b_gI, if_pos KY, y6, b_gI, if_pos KY, y6, b_gI, if_pos KY, y6]
      rfl
    rw [base]
    by_cases q1 : x = 59
    · rw [if_pos q1]; exact fin 3 (by rw [if_pos]; simp [pSg, q1])
    · rw [if_neg q1]
      by_cases q2 : x = 44
      · rw [if_pos q2]; exact fin 3 (by rw [if_pos]; simp [pSg, q2])
      · rw [if_neg q2]
        by_cases q3 : x = 61
        · rw [if_pos q3]; exact fin 3 (by rw [if_pos]; simp [pSg, q3])
        · rw [if_neg q3]
          by_cases q4 : x = 60
          · rw [if_pos q4]; exact fin 3 (by rw [if_pos]; simp [pSg, q4])
          · rw [if_neg q4]
            by_cases q5 : x = 62
            · rw [if_pos q5]; exact fin 3 (by rw [if_pos]; simp [pSg, q5])
            · rw [if_neg q5]; exact fin 4 (by rw [if_neg]; simp [pSg, q1, q2, q3, q4, q5])
  · refine ⟨sI h (c + 55) 5 0, ?_, Sp.I 5 _ (by decide) (by decide), by rw [e_sI, if_neg (by omega)]; exact h2, by rw [e_Iself, if_neg e], fun hh => absurd hh e, fun _ => by rw [e_sI, if_neg (by omega)], rfl⟩
    rw [mX8_takeSign, b_gI, if_pos K, b_gI, if_pos K, h2, h3, if_neg (by rw [lt_of' (by omega) (by omega)]; exact e), b_pI, if_pos K]
/-- the class's step: to the next token -/
theorem p_step {c n p : Nat} {g : Nat → Int32} {h : MHp} (T : TS c g n h) (h4 : hI h (c + 55) 4 = Int32.ofNat p) (hp : p ≤ n) : ∃ h1 : MHp, mX8_step h (c + 55) = some h1 ∧ Sp c h h1 ∧ PC c g n (tokAt g n p) h1 := by
  have n5 := T.2.2.2
  have K := lK55 T.1
  -- spaces
  have S0 : Sp c h (sI h (c + 55) 2 (Int32.ofNat p)) := Sp.I 2 _ (by decide) (by decide)
  obtain ⟨h1, e1, S1, r2⟩ := c_sp (n - p) p FUEL _ (S0.TS T) (e_Iself _ _ _ _) (by omega) (by unfold FUEL; omega)
  have T1 := (S0.tr S1).TS T
  have K1 := lK55 T1.1
  obtain ⟨s, hs⟩ : ∃ s : Nat, s = run pSp g n p := ⟨_, rfl⟩
  have sb := run_b (P := pSp) (g := g) hp
  rw [← hs] at r2 sb
  -- the marks are put down
  obtain ⟨X, hX⟩ : ∃ X : MHp, X = sL (sI (sI h1 (c + 55) 4 (Int32.ofNat s)) (c + 55) 6 0) (c + 55) 7 0 := ⟨_, rfl⟩
  have SX : Sp c h1 X := by rw [hX]; exact ((Sp.I 4 _ (by decide) (by decide)).tr (Sp.I 6 _ (by decide) (by decide))).tr (Sp.L 7 _)
  have TX := SX.TS T1
  have KX := lK55 TX.1
  have x2 : hI X (c + 55) 2 = Int32.ofNat s := by rw [hX, e_I_sL, e_sI, if_neg (by omega), e_sI, if_neg (by omega)]; exact r2
  have x4 : hI X (c + 55) 4 = Int32.ofNat s := by rw [hX, e_I_sL, e_sI, if_neg (by omega), e_Iself]
  have x6 : hI X (c + 55) 6 = 0 := by rw [hX, e_I_sL, e_Iself]
  have x7 : hL X (c + 55) 7 = 0 := by rw [hX, e_sL, if_pos ⟨rfl, rfl⟩]
  have eb44 : mX8_step_b44 h1 (c + 55) = mX8_step_l67 FUEL X (c + 55) (Int32.ofNat s) := by
    have KI : hK (sI h1 (c + 55) 4 (Int32.ofNat s)) (c + 55) = 9 := K1
    have KJ : hK (sI (sI h1 (c + 55) 4 (Int32.ofNat s)) (c + 55) 6 0) (c + 55) = 9 := K1
    rw [mX8_step_b44, b_gI, if_pos K1, r2, b_pI, if_pos K1, b_pI, if_pos KI, b_pL, if_pos KJ, ← hX, b_gI, if_pos KX, x2]
  -- letters
  obtain ⟨h2, e2, S2, s2, s6, s4, s7⟩ := c_le (n - s) s FUEL X TX x2 x4 (by omega) (by unfold FUEL; omega)
  have T2 := S2.TS TX
  have K2 := lK55 T2.1
  have lb := run_b (P := pLe) (g := g) (show s ≤ n by omega)
  rw [x6] at s6
  rw [x7] at s7
  -- digits
  obtain ⟨h3, e3, S3, t2, t4, t6, t7⟩ := c_di (v1 := Int32.ofNat (run pLe g n s - s)) (n - s) s FUEL h2 T2 s2 (by omega) (by unfold FUEL; omega)
  have T3 := S3.TS T2
  have K3 := lK55 T3.1
  have db := run_b (P := pDi) (g := g) (show s ≤ n by omega)
  rw [s6] at t6
  rw [s4] at t4
  have SS := (((S0.tr S1).tr SX).tr S2).tr S3
  have start : mX8_step h (c + 55) = mX8_step_b184 h3 (c + 55) (Int32.ofNat (run pLe g n s - s)) := by
    have K0 := lK55 (S0.CL T.1)
    rw [mX8_step, b_gI, if_pos K, h4, b_pI, if_pos K, b_gI, if_pos K0, show hI (sI h (c + 55) 2 (Int32.ofNat p)) (c + 55) 4 = Int32.ofNat p by rw [e_sI, if_neg (by omega)]; exact h4, e1, eb44, e2, mX8_step_b117, b_gI, if_pos K2, s4, b_gI, if_pos K2, s2, b_gI, if_pos K2, s2, sub_of lb.1, e3]
  have etok : tokAt g n p = tkOf g n s := by unfold tokAt; rw [← hs]
  rw [etok]
  unfold tkOf
  by_cases L0 : s < run pLe g n s
  · rw [if_pos L0]
    have nv : ¬ Int32.ofNat (run pLe g n s - s) ≤ 0 := by rw [le0_of (by omega)]; omega
    have nd : run pDi g n s = s := by
      apply run_e
      intro hh
      have l1 := run_in (P := pLe) (g := g) (n := n) (n - s) s (by omega) s (Nat.le_refl _) L0
      have d1 := hh.2
      unfold pLe at l1
      unfold pDi at d1
      rw [Bool.and_eq_true, decide_eq_true_eq, decide_eq_true_eq] at l1 d1
      have := Int32.le_trans l1.1 d1.2
      exact absurd this (by decide)
    rw [nd, if_neg (Nat.lt_irrefl _)] at t4
    by_cases L8 : run pLe g n s - s ≤ 8
    · rw [if_pos L8]
      refine ⟨sI h3 (c + 55) 5 1, ?_, SS.tr (Sp.I 5 _ (by decide) (by decide)), (Sp.I 5 _ (by decide) (by decide)).TS T3, lb.2, ?_, ?_, fun _ => ?_, fun hh => by first | exact kk23 (by decide) hh | exact kk1 (by decide) hh, fun _ => ?_⟩
      · rw [start, mX8_step_b184, if_neg nv, mX8_step_b201, if_neg nv, if_neg (by rw [show (8 : Int32) = Int32.ofNat 8 from rfl, lt_of' (by omega) (by omega)]; omega), mX8_step_b218, b_pI, if_pos K3]
      · rw [e_sI, if_neg (by omega)]; exact t2
      · exact e_Iself _ _ _ _
      · rw [e_sI, if_neg (by omega)]; exact t4
      · rw [e_L_sI, t7]; exact s7
    · rw [if_neg L8]
      refine ⟨sI h3 (c + 55) 5 4, ?_, SS.tr (Sp.I 5 _ (by decide) (by decide)), (Sp.I 5 _ (by decide) (by decide)).TS T3, sb.2, ?_, ?_, fun hh => absurd rfl hh, fun hh => by first | exact kk23 (by decide) hh | exact kk1 (by decide) hh, fun hh => by first | exact kk23 (by decide) hh | exact kk1 (by decide) hh⟩
      · rw [start, mX8_step_b184, if_neg nv, mX8_step_b201, if_neg nv, if_pos (by rw [show (8 : Int32) = Int32.ofNat 8 from rfl, lt_of' (by omega) (by omega)]; omega), mX8_step_b218, b_pI, if_pos K3]
      · rw [e_sI, if_neg (by omega)]; exact t2
      · exact e_Iself _ _ _ _
  · rw [if_neg L0]
    have le : run pLe g n s = s := by omega
    have v0 : Int32.ofNat (run pLe g n s - s) = 0 := by rw [le, Nat.sub_self]; rfl
    rw [v0] at start
    rw [le] at t4
    have t4' : hI h3 (c + 55) 4 = Int32.ofNat (run pDi g n s) := by
      rw [t4]
      by_cases z : s < run pDi g n s
      · rw [if_pos z]
      · rw [if_neg z, show run pDi g n s = s by omega]
    by_cases D0 : s < run pDi g n s
    · rw [if_pos D0]
      have n0 : ¬ Int32.ofNat (run pDi g n s - s) ≤ 0 := by rw [le0_of (by omega)]; omega
      by_cases D4 : run pDi g n s - s ≤ 4
      · rw [if_pos D4]
        refine ⟨sI h3 (c + 55) 5 2, ?_, SS.tr (Sp.I 5 _ (by decide) (by decide)), (Sp.I 5 _ (by decide) (by decide)).TS T3, db.2, ?_, ?_, fun _ => ?_, fun _ => ?_, fun hh => by first | exact kk23 (by decide) hh | exact kk1 (by decide) hh⟩
        · rw [start, mX8_step_b184, if_pos (by decide), b_gI, if_pos K3, b_gI, if_pos K3, t4', t2, sub_of db.1, mX8_step_b201, if_pos (by decide), if_neg n0, if_neg (by rw [show (4 : Int32) = Int32.ofNat 4 from rfl, lt_of' (by omega) (by omega)]; omega), mX8_step_b239, b_pI, if_pos K3]
        · rw [e_sI, if_neg (by omega)]; exact t2
        · exact e_Iself _ _ _ _
        · rw [e_sI, if_neg (by omega)]; exact t4'
        · rw [e_sI, if_neg (by omega)]; exact t6
      · rw [if_neg D4]
        refine ⟨sI h3 (c + 55) 5 4, ?_, SS.tr (Sp.I 5 _ (by decide) (by decide)), (Sp.I 5 _ (by decide) (by decide)).TS T3, sb.2, ?_, ?_, fun hh => absurd rfl hh, fun hh => by first | exact kk23 (by decide) hh | exact kk1 (by decide) hh, fun hh => by first | exact kk23 (by decide) hh | exact kk1 (by decide) hh⟩
        · rw [start, mX8_step_b184, if_pos (by decide), b_gI, if_pos K3, b_gI, if_pos K3, t4', t2, sub_of db.1, mX8_step_b201, if_pos (by decide), if_neg n0, if_pos (by rw [show (4 : Int32) = Int32.ofNat 4 from rfl, lt_of' (by omega) (by omega)]; omega), mX8_step_b239, b_pI, if_pos K3]
        · rw [e_sI, if_neg (by omega)]; exact t2
        · exact e_Iself _ _ _ _
    · rw [if_neg D0]
      have de : run pDi g n s = s := by omega
      rw [de] at t4'
      -- a sign, or the end
      have eby : ∃ x : Int32, mX8_byteAt h3 (c + 55) (Int32.ofNat s) = some x ∧ (s < n → x = g s) := by
        by_cases z : s < n
        · exact ⟨g s, p_byte T3 z, fun _ => rfl⟩
        · by_cases z2 : s < 500
          · refine ⟨g s, ?_, fun _ => rfl⟩
            obtain ⟨L, a1, a2, a3⟩ := T3
            rw [mX8_byteAt, if_neg (nlt0 (by omega)), b_gR, if_pos (lK55 L), lR55_0 L, b_gN, if_pos (lK1 L), lN1 L, if_neg (by rw [le_of (by omega) (by omega)]; omega), b_gR, if_pos (lK55 L), lR55_0 L, b_gAI, if_pos (lK1 L), lN1 L, if_neg (bad_n (by omega) (by omega)), cl_of (by omega), a1]
          · refine ⟨0, ?_, fun hh => absurd hh z⟩
            obtain ⟨L, a1, a2, a3⟩ := T3
            rw [mX8_byteAt, if_neg (nlt0 (by omega)), b_gR, if_pos (lK55 L), lR55_0 L, b_gN, if_pos (lK1 L), lN1 L, if_pos (by rw [le_of (by omega) (by omega)]; omega)]
      obtain ⟨x, ex, hx⟩ := eby
      obtain ⟨h5, e5, S5, u2, u5, u4, u4', uL⟩ := p_takeSign (x := x) T3.1 T3.2.2.1 T3.2.2.2 t2 sb.2
      have go : mX8_step h (c + 55) = some h5 := by
        rw [start, mX8_step_b184, if_pos (by decide), b_gI, if_pos K3, b_gI, if_pos K3, t4', t2, sub_of (Nat.le_refl _), Nat.sub_self, mX8_step_b201, if_pos (by decide), if_pos (by decide), b_gI, if_pos K3, t2, b_rcv, if_pos K3, ex, o_bind, b_rcv, if_pos K3, e5, o_bind]
      by_cases z : s < n
      · rw [if_pos z]
        rw [if_pos z, hx z] at u5
        by_cases q : pSg (g s) = true
        · rw [if_pos q]
          rw [if_pos q] at u5
          exact ⟨h5, go, SS.tr S5, S5.TS T3, by show s + 1 ≤ n; omega, u2, u5, fun _ => (u4 z).1, fun _ => by rw [(u4 z).2, hx z]; rfl, fun hh => by first | exact kk23 (by decide) hh | exact kk1 (by decide) hh⟩
        · rw [if_neg q]
          rw [if_neg q] at u5
          exact ⟨h5, go, SS.tr S5, S5.TS T3, sb.2, u2, u5, fun hh => absurd rfl hh, fun hh => by first | exact kk23 (by decide) hh | exact kk1 (by decide) hh, fun hh => by first | exact kk23 (by decide) hh | exact kk1 (by decide) hh⟩
      · rw [if_neg z]
        rw [if_neg z] at u5
        exact ⟨h5, go, SS.tr S5, S5.TS T3, sb.2, u2, u5, fun _ => by rw [u4' z]; exact t4', fun hh => by first | exact kk23 (by decide) hh | exact kk1 (by decide) hh, fun hh => by first | exact kk23 (by decide) hh | exact kk1 (by decide) hh⟩

/-! the reference's next whole -/
theorem q_tk {m n s fu : Nat} {g : Nat → Int32} {h : MHp} (hb : ∀ k : Nat, (g k).toInt8.toInt32 = g k) (T : TSr m g n h) (h12 : hI h m 12 = Int32.ofNat s) (hs : s ≤ n) (ns : ¬ (s < n ∧ g s = 32)) : ∃ h1 : MHp, mX16_next_l0 (fu + 1) h m = some h1 ∧ Sn m h h1 ∧ PR m g n (tkOf g n s) h1 := by
  have n5 := T.2.2.2
  have L := T.1
  have ex := q_byte T hs
  obtain ⟨f1, f2, f3, f4, f5, f6⟩ := byt_f (hb s)
  obtain ⟨X, hX⟩ : ∃ X : MHp, X = sI (sI (sI h m 14 (Int32.ofNat s)) m 13 0) m 15 0 := ⟨_, rfl⟩
  have SX : Sn m h X := by rw [hX]; exact ((Sn.I 14 _ (by omega)).tr (Sn.I 13 _ (by omega))).tr (Sn.I 15 _ (by omega))
  have TX := SX.TSr T
  have LX := TX.1
  have x12 : hI X m 12 = Int32.ofNat s := by rw [hX, e_sI, if_neg (by omega), e_sI, if_neg (by omega), e_sI, if_neg (by omega)]; exact h12
  have x13 : hI X m 13 = 0 := by rw [hX, e_sI, if_neg (by omega), e_Iself]
  have x14 : hI X m 14 = Int32.ofNat s := by rw [hX, e_sI, if_neg (by omega), e_sI, if_neg (by omega), e_Iself]
  have exX := q_byte TX hs
  have lb := run_b (P := pLe) (g := g) hs
  have db := run_b (P := pDi) (g := g) hs
  by_cases z : s < n
  · rw [if_pos z] at ex exX
    have n32 : ¬ (g s &&& 255 = 32) := fun hh => ns ⟨z, f1.mp hh⟩
    have KI : hK (sI h m 14 (Int32.ofNat s)) m = 17 := qK0 L
    have KJ : hK (sI (sI h m 14 (Int32.ofNat s)) m 13 0) m = 17 := qK0 L
    have base : mX16_next_l0 (fu + 1) h m = (if (if pLe (g s) = true then (1 : Int32) else 0) = 0 then (if (if pDi (g s) = true then (1 : Int32) else 0) = 0 then (if (g s &&& 255) = 59 then mX16_next_b270 X m (g s &&& 255) else (if (g s &&& 255) = 44 then mX16_next_b270 X m (g s &&& 255) else (if (g s &&& 255) = 61 then mX16_next_b270 X m (g s &&& 255) else (if (g s &&& 255) = 60 then mX16_next_b270 X m (g s &&& 255) else (if (g s &&& 255) = 62 then mX16_next_b270 X m (g s &&& 255) else some X))))) else mX16_next_l169 FUEL (sI X m 16 0) m 0) else mX16_next_l80 FUEL (sL X m 17 0) m 0) := by
      rw [mX16_next_l0, b_gI, if_pos (qK0 L), h12, b_rcv, if_pos (qK0 L), ex, o_bind, if_neg n32, b_gI, if_pos (qK0 L), h12, b_pI, if_pos (qK0 L), b_pI, if_pos KI, b_pI, if_pos KJ, ← hX, b_gI, if_pos (qK0 LX), x12, b_rcv, if_pos (qK0 LX), exX, o_bind, if_neg f5, q_letter, o_bind, q_digit, o_bind, b_pI, if_pos (qK0 LX), b_pL, if_pos (qK0 LX), f2, f3]
    by_cases e1 : pLe (g s) = true
    · rw [if_pos e1, if_neg n10] at base
      have rs := run_s (P := pLe) (g := g) z e1
      have rl := run_b (P := pLe) (g := g) (show s + 1 ≤ n by omega)
      have SY : Sn m X (sL X m 17 0) := Sn.L 17 0
      obtain ⟨h1, u1, S1, r1, r2, r3, r4⟩ := q_le hb (n - s) s 0 FUEL (sL X m 17 0) (SY.TSr TX) (by rw [e_I_sL]; exact x12) (by rw [e_I_sL]; exact x13) (by omega) (by omega) (by unfold FUEL; omega)
      have u1' : mX16_next_l80 FUEL (sL X m 17 0) m 0 = some h1 := u1
      rw [Nat.zero_add] at r3 r4
      have T1 := S1.TSr (SY.TSr TX)
      refine ⟨h1, by rw [base, u1'], (SX.tr SY).tr S1, ?_⟩
      unfold tkOf
      rw [if_pos (by omega)]
      by_cases L8 : run pLe g n s - s ≤ 8
      · rw [if_pos L8]
        rw [if_pos L8] at r3
        refine ⟨T1, lb.2, by rw [r1, e_I_sL]; exact x14, r3, fun _ => r2, fun hh => absurd (show (1 : Nat) = 3 from hh) (by decide), fun hh => absurd (show (1 : Nat) = 2 from hh) (by decide), fun _ => ?_⟩
        rw [r4 L8, e_sL, if_pos ⟨rfl, rfl⟩]
        rfl
      · rw [if_neg L8]
        rw [if_neg L8] at r3
        exact ⟨T1, hs, by rw [r1, e_I_sL]; exact x14, r3, fun hh => absurd rfl hh, fun hh => absurd (show (4 : Nat) = 3 from hh) (by decide), fun hh => absurd (show (4 : Nat) = 2 from hh) (by decide), fun hh => absurd (show (4 : Nat) = 1 from hh) (by decide)⟩
    · rw [if_neg e1, if_pos rfl] at base
      have re := run_e (P := pLe) (g := g) (n := n) (p := s) (fun hh => e1 hh.2)
      by_cases e2 : pDi (g s) = true
      · rw [if_pos e2, if_neg n10] at base
        have rs := run_s (P := pDi) (g := g) z e2
        have rl := run_b (P := pDi) (g := g) (show s + 1 ≤ n by omega)
        have SY : Sn m X (sI X m 16 0) := Sn.I 16 0 (by omega)
        obtain ⟨h1, u1, S1, r1, r2, r3, r4⟩ := q_di hb (n - s) s 0 FUEL (sI X m 16 0) (SY.TSr TX) (by rw [e_sI, if_neg (by omega)]; exact x12) (by rw [e_sI, if_neg (by omega)]; exact x13) (by omega) (by omega) (by unfold FUEL; omega)
        have u1' : mX16_next_l169 FUEL (sI X m 16 0) m 0 = some h1 := u1
        rw [Nat.zero_add] at r3 r4
        have T1 := S1.TSr (SY.TSr TX)
        refine ⟨h1, by rw [base, u1'], (SX.tr SY).tr S1, ?_⟩
        unfold tkOf
        rw [if_neg (by omega), if_pos (by omega)]
        by_cases D4 : run pDi g n s - s ≤ 4
        · rw [if_pos D4]
          rw [if_pos D4] at r3
          refine ⟨T1, db.2, by rw [r1, e_sI, if_neg (by omega)]; exact x14, r3, fun _ => r2, fun hh => absurd (show (2 : Nat) = 3 from hh) (by decide), fun _ => ?_, fun hh => absurd (show (2 : Nat) = 1 from hh) (by decide)⟩
          rw [r4 D4, e_Iself]
          rfl
        · rw [if_neg D4]
          rw [if_neg D4] at r3
          exact ⟨T1, hs, by rw [r1, e_sI, if_neg (by omega)]; exact x14, r3, fun hh => absurd rfl hh, fun hh => absurd (show (4 : Nat) = 3 from hh) (by decide), fun hh => absurd (show (4 : Nat) = 2 from hh) (by decide), fun hh => absurd (show (4 : Nat) = 1 from hh) (by decide)⟩
      · rw [if_neg e2, if_pos rfl] at base
        have rd := run_e (P := pDi) (g := g) (n := n) (p := s) (fun hh => e2 hh.2)
        have et : tkOf g n s = if pSg (g s) = true then mkT 3 s (s + 1) (g s) [] else mkT 4 s s 0 [] := by
          unfold tkOf
          rw [if_neg (by omega), if_neg (by omega), if_pos z]
        rw [et]
        by_cases e3 : pSg (g s) = true
        · rw [if_pos e3]
          have fx := f6 (Or.inr (Or.inr e3))
          rw [fx] at base
          have hit : mX16_next_l0 (fu + 1) h m = mX16_next_b270 X m (g s) := by
            rw [base]
            unfold pSg at e3
            rw [Bool.or_eq_true, Bool.or_eq_true, Bool.or_eq_true, Bool.or_eq_true, decide_eq_true_eq, decide_eq_true_eq, decide_eq_true_eq, decide_eq_true_eq, decide_eq_true_eq] at e3
            rcases e3 with q | q | q | q | q <;> rw [q] <;> rfl
          obtain ⟨Y, hY⟩ : ∃ Y : MHp, Y = sI (sI (sI X m 13 4) m 15 (g s)) m 12 (Int32.ofNat (s + 1)) := ⟨_, rfl⟩
          have SY : Sn m X Y := by rw [hY]; exact ((Sn.I 13 _ (by omega)).tr (Sn.I 15 _ (by omega))).tr (Sn.I 12 _ (by omega))
          have K1 : hK (sI X m 13 4) m = 17 := qK0 LX
          have K2 : hK (sI (sI X m 13 4) m 15 (g s)) m = 17 := qK0 LX
          have i12 : hI (sI (sI X m 13 4) m 15 (g s)) m 12 = Int32.ofNat s := by rw [e_sI, if_neg (by omega), e_sI, if_neg (by omega)]; exact x12
          refine ⟨Y, ?_, SX.tr SY, SY.TSr TX, by show s + 1 ≤ n; omega, ?_, ?_, fun _ => ?_, fun _ => ?_, fun hh => absurd (show (3 : Nat) = 2 from hh) (by decide), fun hh => absurd (show (3 : Nat) = 1 from hh) (by decide)⟩
          · rw [hit, mX16_next_b270, b_pI, if_pos (qK0 LX), b_pI, if_pos K1, b_gI, if_pos K2, i12, b_pI, if_pos K2, s1_of, ← hY]
          · rw [hY, e_sI, if_neg (by omega), e_sI, if_neg (by omega), e_sI, if_neg (by omega)]; exact x14
          · rw [hY, e_sI, if_neg (by omega), e_sI, if_neg (by omega), e_Iself]; rfl
          · rw [hY, e_Iself]; rfl
          · rw [hY, e_sI, if_neg (by omega), e_Iself]; rfl
        · rw [if_neg e3]
          have e3' : ¬ pSg (g s &&& 255) = true := by rw [f4]; exact e3
          have miss : mX16_next_l0 (fu + 1) h m = some X := by
            rw [base]
            unfold pSg at e3'
            rw [Bool.or_eq_true, Bool.or_eq_true, Bool.or_eq_true, Bool.or_eq_true, decide_eq_true_eq, decide_eq_true_eq, decide_eq_true_eq, decide_eq_true_eq, decide_eq_true_eq] at e3'
            rw [if_neg (fun q => e3' (Or.inl q)), if_neg (fun q => e3' (Or.inr (Or.inl q))), if_neg (fun q => e3' (Or.inr (Or.inr (Or.inl q)))), if_neg (fun q => e3' (Or.inr (Or.inr (Or.inr (Or.inl q))))), if_neg (fun q => e3' (Or.inr (Or.inr (Or.inr (Or.inr q)))))]
          exact ⟨X, miss, SX, TX, hs, x14, x13, fun hh => absurd rfl hh, fun hh => absurd (show (4 : Nat) = 3 from hh) (by decide), fun hh => absurd (show (4 : Nat) = 2 from hh) (by decide), fun hh => absurd (show (4 : Nat) = 1 from hh) (by decide)⟩
  · rw [if_neg z] at ex exX
    have KI : hK (sI h m 14 (Int32.ofNat s)) m = 17 := qK0 L
    have KJ : hK (sI (sI h m 14 (Int32.ofNat s)) m 13 0) m = 17 := qK0 L
    have re := run_e (P := pLe) (g := g) (n := n) (p := s) (fun hh => z hh.1)
    have rd := run_e (P := pDi) (g := g) (n := n) (p := s) (fun hh => z hh.1)
    have et : tkOf g n s = mkT 0 s s 0 [] := by
      unfold tkOf
      rw [if_neg (by omega), if_neg (by omega), if_neg z]
    rw [et]
    have SY : Sn m X (sI X m 13 1) := Sn.I 13 1 (by omega)
    refine ⟨sI X m 13 1, ?_, SX.tr SY, SY.TSr TX, hs, ?_, ?_, fun _ => ?_, fun hh => absurd (show (0 : Nat) = 3 from hh) (by decide), fun hh => absurd (show (0 : Nat) = 2 from hh) (by decide), fun hh => absurd (show (0 : Nat) = 1 from hh) (by decide)⟩
    · rw [mX16_next_l0, b_gI, if_pos (qK0 L), h12, b_rcv, if_pos (qK0 L), ex, o_bind, if_neg (by decide), b_gI, if_pos (qK0 L), h12, b_pI, if_pos (qK0 L), b_pI, if_pos KI, b_pI, if_pos KJ, ← hX, b_gI, if_pos (qK0 LX), x12, b_rcv, if_pos (qK0 LX), exX, o_bind, if_pos rfl, b_pI, if_pos (qK0 LX)]
    · rw [e_sI, if_neg (by omega)]; exact x14
    · rw [e_Iself]; rfl
    · rw [e_sI, if_neg (by omega)]; exact x12
theorem q_nx {m n : Nat} {g : Nat → Int32} (hb : ∀ k : Nat, (g k).toInt8.toInt32 = g k) : ∀ (q p fu : Nat) (h : MHp), TSr m g n h → hI h m 12 = Int32.ofNat p → p + q = n → q < fu → ∃ h1 : MHp, mX16_next_l0 fu h m = some h1 ∧ Sn m h h1 ∧ PR m g n (tokAt g n p) h1 := by
  intro q
  induction q with
  | zero =>
    intro p fu h T h12 hq hfu
    obtain ⟨fu, rfl⟩ : ∃ g : Nat, fu = g + 1 := ⟨fu - 1, by omega⟩
    unfold tokAt
    rw [run_e (P := pSp) (by omega)]
    exact q_tk hb T h12 (by omega) (by omega)
  | succ q ih =>
    intro p fu h T h12 hq hfu
    obtain ⟨fu, rfl⟩ : ∃ g : Nat, fu = g + 1 := ⟨fu - 1, by omega⟩
    have n5 := T.2.2.2
    have L := T.1
    by_cases e : g p = 32
    · obtain ⟨f1, -⟩ := byt_f (hb p)
      have ex := q_byte T (show p ≤ n by omega)
      rw [if_pos (by omega)] at ex
      have SX : Sn m h (sI h m 12 (Int32.ofNat (p + 1))) := Sn.I 12 _ (by omega)
      obtain ⟨h1, e1, S1, r1⟩ := ih (p + 1) fu _ (SX.TSr T) (e_Iself _ _ _ _) (by omega) (by omega)
      refine ⟨h1, ?_, SX.tr S1, ?_⟩
      · rw [mX16_next_l0, b_gI, if_pos (qK0 L), h12, b_rcv, if_pos (qK0 L), ex, o_bind, if_pos (f1.mpr e), b_gI, if_pos (qK0 L), h12, b_pI, if_pos (qK0 L), s1_of, e1]
      · unfold tokAt at r1 ⊢
        rw [run_s (P := pSp) (show p < n by omega) (decide_eq_true e)]
        exact r1
    · unfold tokAt
      rw [run_e (P := pSp) (fun hh => e (of_decide_eq_true hh.2))]
      exact q_tk hb T h12 (by omega) (fun hh => e hh.2)
theorem q_next {m n p : Nat} {g : Nat → Int32} {h : MHp} (hb : ∀ k : Nat, (g k).toInt8.toInt32 = g k) (T : TSr m g n h) (h12 : hI h m 12 = Int32.ofNat p) (hp : p ≤ n) : ∃ h1 : MHp, mX16_next h m = some h1 ∧ Sn m h h1 ∧ PR m g n (tokAt g n p) h1 := by
  have := T.2.2.2
  exact q_nx hb (n - p) p FUEL h T h12 (by omega) (by unfold FUEL; omega)

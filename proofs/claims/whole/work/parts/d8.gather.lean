/-! the class gathers givers -/
theorem c_gat {c row S must : Nat} {A : AS} (W : WA A) (hS : S < 64) (hm : must < 64) (hrow : row < 60) : ∀ (q r fu : Nat) (h : MHp), CR c h A → (∀ f : Nat, f < bF (aB A) → hAI h (c + 186) f = nvX A row f) → (∀ i : Nat, i < (gvs (gvP A row S must) r).1 → hAI h (c + 191) i = Int32.ofNat ((gvs (gvP A row S must) r).2.2 i)) → r + q = aN A 2 → q < fu → ∃ h1 : MHp, mX5_gatherGivers_l10 fu h (c + 185) (Int32.ofNat row) (Int32.ofNat S) (Int32.ofNat must) (Int32.ofNat (gvs (gvP A row S must) r).1) (Int32.ofNat (gvs (gvP A row S must) r).2.1) (Int32.ofNat r) = some (Int32.ofNat (gvs (gvP A row S must) (aN A 2)).1, h1) ∧ Sg c h h1 ∧ ∀ i : Nat, i < (gvs (gvP A row S must) (aN A 2)).1 → hAI h1 (c + 191) i = Int32.ofNat ((gvs (gvP A row S must) (aN A 2)).2.2 i) := by
  have n60 := W.2.2.2.1
  intro q
  induction q with
  | zero =>
    intro r fu h C ho hg hr hfu
    obtain ⟨fu, rfl⟩ : ∃ g : Nat, fu = g + 1 := ⟨fu - 1, by omega⟩
    obtain ⟨b, G⟩ := C.rg W
    have L := G.1
    have K := lK185 L
    have : r = aN A 2 := by omega
    subst this
    refine ⟨h, ?_, Sg.rf, hg⟩
    rw [mX5_gatherGivers_l10, b_gR, if_pos K, lR185_0 L, b_gI, if_pos (lK56 L), G.2.2.2.2.2.1, if_pos (by rw [le_of (by omega) (by omega)]; omega)]
  | succ q ih =>
    intro r fu h C ho hg hr hfu
    obtain ⟨fu, rfl⟩ : ∃ g : Nat, fu = g + 1 := ⟨fu - 1, by omega⟩
    obtain ⟨b, G⟩ := C.rg W
    have L := G.1
    have K := lK185 L
    have I := gvs_I (P := gvP A row S must) (gvP_6 W) r
    have base : mX5_gatherGivers_l10 (fu + 1) h (c + 185) (Int32.ofNat row) (Int32.ofNat S) (Int32.ofNat must) (Int32.ofNat (gvs (gvP A row S must) r).1) (Int32.ofNat (gvs (gvP A row S must) r).2.1) (Int32.ofNat r) = (if r = row then mX5_gatherGivers_l10 fu h (c + 185) (Int32.ofNat row) (Int32.ofNat S) (Int32.ofNat must) (Int32.ofNat (gvs (gvP A row S must) r).1) (Int32.ofNat (gvs (gvP A row S must) r).2.1) (Int32.ofNat (r + 1)) else (mX5_canGive h (c + 185) (Int32.ofNat r) (Int32.ofNat S) (Int32.ofNat must)).bind fun r11 => (if r11.1 = 0 then mX5_gatherGivers_b104 (mX5_gatherGivers_l10 fu) r11.2 (c + 185) (Int32.ofNat row) (Int32.ofNat S) (Int32.ofNat must) (Int32.ofNat (gvs (gvP A row S must) r).1) (Int32.ofNat (gvs (gvP A row S must) r).2.1) (Int32.ofNat r) else (rcv 6 r11.2 (some (c + 185))).bind fun b14 => (mX5_countUnlike r11.2 b14 (Int32.ofNat S ^^^ (-1))).bind fun r13 => (if (Int32.ofNat (gvs (gvP A row S must) r).2.1) ≤ r13 then mX5_gatherGivers_b75 (mX5_gatherGivers_l10 fu) r11.2 (c + 185) (Int32.ofNat row) (Int32.ofNat S) (Int32.ofNat must) (Int32.ofNat (gvs (gvP A row S must) r).1) (Int32.ofNat (gvs (gvP A row S must) r).2.1) (Int32.ofNat r) r13 else mX5_gatherGivers_b75 (mX5_gatherGivers_l10 fu) r11.2 (c + 185) (Int32.ofNat row) (Int32.ofNat S) (Int32.ofNat must) 0 r13 (Int32.ofNat r) r13))) := by
      rw [mX5_gatherGivers_l10, b_gR, if_pos K, lR185_0 L, b_gI, if_pos (lK56 L), G.2.2.2.2.2.1, if_neg (by rw [le_of (by omega) (by omega)]; omega), b_gR, if_pos K, lR185_7 L, b_gN, if_pos (lK191 L), lN191 L, if_neg (by rw [le_of (by omega) (by omega)]; omega)]
      by_cases e : r = row
      · rw [if_pos e, if_pos (by rw [e]), mX5_gatherGivers_b104, s1_of]
      · rw [if_neg e, if_neg (by rw [eq_of (by omega) (by omega)]; exact e), b_rcv, if_pos K]
    by_cases e : r = row
    · have pn : gvP A row S must r = none := by unfold gvP; rw [if_pos e]
      obtain ⟨h2, e2, S2, r2⟩ := ih (r + 1) fu h C ho (by rw [gvs_n pn]; exact hg) (by omega) (by omega)
      rw [gvs_n pn] at e2
      exact ⟨h2, by rw [base, if_pos e, e2], S2, r2⟩
    · obtain ⟨h1, e1, S1, o1, t1⟩ := p_canGive (row := row) (S := S) (must := must) C W (show r < aN A 2 by omega) hm ho
      have C1 := C.sc W S1.1
      have L1 := C1.l
      have ho1 : ∀ f : Nat, f < bF (aB A) → hAI h1 (c + 186) f = nvX A row f := fun f hf => by rw [S1.2.2 _ (by omega) (by omega) (by omega), ho f hf]
      have g191 : hAI h1 (c + 191) = hAI h (c + 191) := o1 _ (by omega) (by omega)
      rw [if_neg e, e1, o_bind] at base
      by_cases g : gvB A row S must r = true
      · have pn : gvP A row S must r = some (unN A row S r) := by unfold gvP; rw [if_neg e, if_pos g]
        have u6 := gvP_6 W _ _ pn
        have gs := gvs_s pn
        rw [if_pos g, if_neg n10, b_rcv, if_pos (lK185 L1), p_unlike C1 W hS ho1 (t1 g), o_bind] at base
        have f7 : (gvs (gvP A row S must) r).2.1 ≤ 7 := by rcases I with I | I <;> omega
        have c60 : (gvs (gvP A row S must) r).1 < 60 := by rcases I with I | I <;> omega
        by_cases le : (gvs (gvP A row S must) r).2.1 ≤ unN A row S r
        · rw [if_pos (by rw [le_of (by omega) (by omega)]; exact le)] at base
          by_cases eq : unN A row S r = (gvs (gvP A row S must) r).2.1
          · rw [if_neg (by omega), if_pos eq] at gs
            obtain ⟨X, hX⟩ : ∃ X : MHp, X = sAI h1 (c + 191) (va_up (hAI h1 (c + 191)) (gvs (gvP A row S must) r).1 (Int32.ofNat r)) := ⟨_, rfl⟩
            have SX : Sg c h1 X := by rw [hX]; exact ⟨Sc.AI 191 _ (by decide), rfl, fun a _ _ y => by rw [e_sAI, if_neg y]⟩
            obtain ⟨h2, e2, S2, r2⟩ := ih (r + 1) fu X (C1.sc W SX.1) (fun f hf => by rw [SX.2.2 _ (by omega) (by omega) (by omega), ho1 f hf]) (fun i hi => by
              rw [gs] at hi ⊢
              have hi : i < (gvs (gvP A row S must) r).1 + 1 := hi
              show hAI X (c + 191) i = Int32.ofNat (va_up (gvs (gvP A row S must) r).2.2 (gvs (gvP A row S must) r).1 r i)
              rw [hX, e_sAI, if_pos rfl, e_up, e_up]
              by_cases q : i = (gvs (gvP A row S must) r).1
              · rw [if_pos q, if_pos q]
              · rw [if_neg q, if_neg q, g191, hg i (by omega)]) (by omega) (by omega)
            have e2' : mX5_gatherGivers_l10 fu X (c + 185) (Int32.ofNat row) (Int32.ofNat S) (Int32.ofNat must) (Int32.ofNat ((gvs (gvP A row S must) r).1 + 1)) (Int32.ofNat (unN A row S r)) (Int32.ofNat (r + 1)) = some (Int32.ofNat (gvs (gvP A row S must) (aN A 2)).1, h2) := by
              rw [gs] at e2; exact e2
            refine ⟨h2, ?_, (S1.tr SX).tr S2, r2⟩
            rw [base, mX5_gatherGivers_b75, if_pos (by rw [eq]), b_gR, if_pos (lK185 L1), lR185_7 L1, b_gN, if_pos (lK191 L1), lN191 L1, if_neg (by rw [le_of (by omega) (by omega)]; omega), b_gR, if_pos (lK185 L1), lR185_7 L1, b_pAI, if_pos (lK191 L1), lN191 L1, if_neg (bad_n (by omega) (by omega)), cl_of (by omega), ← hX, mX5_gatherGivers_b104, s1_of, s1_of, ← eq, e2']
          · rw [if_neg (by omega), if_neg eq] at gs
            obtain ⟨h2, e2, S2, r2⟩ := ih (r + 1) fu h1 C1 ho1 (fun i hi => by rw [gs] at hi ⊢; rw [g191, hg i hi]) (by omega) (by omega)
            rw [gs] at e2
            refine ⟨h2, ?_, S1.tr S2, r2⟩
            rw [base, mX5_gatherGivers_b75, if_neg (by rw [eq_of (by omega) (by omega)]; exact eq), mX5_gatherGivers_b104, s1_of, e2]
        · rw [if_neg (by rw [le_of (by omega) (by omega)]; exact le)] at base
          rw [if_pos (by omega)] at gs
          obtain ⟨X, hX⟩ : ∃ X : MHp, X = sAI h1 (c + 191) (va_up (hAI h1 (c + 191)) 0 (Int32.ofNat r)) := ⟨_, rfl⟩
          have SX : Sg c h1 X := by rw [hX]; exact ⟨Sc.AI 191 _ (by decide), rfl, fun a _ _ y => by rw [e_sAI, if_neg y]⟩
          obtain ⟨h2, e2, S2, r2⟩ := ih (r + 1) fu X (C1.sc W SX.1) (fun f hf => by rw [SX.2.2 _ (by omega) (by omega) (by omega), ho1 f hf]) (fun i hi => by
            rw [gs] at hi ⊢
            have hi : i < 1 := hi
            show hAI X (c + 191) i = Int32.ofNat (va_up (gvs (gvP A row S must) r).2.2 0 r i)
            rw [hX, e_sAI, if_pos rfl, e_up, e_up, if_pos (by omega), if_pos (by omega)]) (by omega) (by omega)
          have e2' : mX5_gatherGivers_l10 fu X (c + 185) (Int32.ofNat row) (Int32.ofNat S) (Int32.ofNat must) (Int32.ofNat 1) (Int32.ofNat (unN A row S r)) (Int32.ofNat (r + 1)) = some (Int32.ofNat (gvs (gvP A row S must) (aN A 2)).1, h2) := by
            rw [gs] at e2; exact e2
          refine ⟨h2, ?_, (S1.tr SX).tr S2, r2⟩
          rw [base, mX5_gatherGivers_b75, if_pos rfl, b_gR, if_pos (lK185 L1), lR185_7 L1, b_gN, if_pos (lK191 L1), lN191 L1, if_neg (by decide), b_gR, if_pos (lK185 L1), lR185_7 L1, b_pAI, if_pos (lK191 L1), lN191 L1, if_neg (by decide), show (0 : Int32).toNatClampNeg = 0 from rfl, ← hX, mX5_gatherGivers_b104, s1_of, show (0 : Int32) + 1 = Int32.ofNat 1 from rfl, e2']
      · have pn : gvP A row S must r = none := by unfold gvP; rw [if_neg e, if_neg g]
        rw [if_neg g, if_pos rfl, mX5_gatherGivers_b104, s1_of] at base
        obtain ⟨h2, e2, S2, r2⟩ := ih (r + 1) fu h1 C1 ho1 (by rw [gvs_n pn, g191]; exact hg) (by omega) (by omega)
        rw [gvs_n pn] at e2
        exact ⟨h2, by rw [base, e2], S1.tr S2, r2⟩
theorem p_gather {c row S must : Nat} {h : MHp} {A : AS} (C : CR c h A) (W : WA A) (hS : S < 64) (hm : must < 64) (hrow : row < 60) (ho : ∀ f : Nat, f < bF (aB A) → hAI h (c + 186) f = nvX A row f) : ∃ h1 : MHp, mX5_gatherGivers h (c + 185) (Int32.ofNat row) (Int32.ofNat S) (Int32.ofNat must) = some (Int32.ofNat (gvs (gvP A row S must) (aN A 2)).1, h1) ∧ Sg c h h1 ∧ ∀ i : Nat, i < (gvs (gvP A row S must) (aN A 2)).1 → hAI h1 (c + 191) i = Int32.ofNat ((gvs (gvP A row S must) (aN A 2)).2.2 i) := by
  have n60 := W.2.2.2.1
  obtain ⟨h1, e1, S1, r1⟩ := c_gat (must := must) W hS hm hrow (aN A 2) 0 FUEL h C ho (fun i hi => absurd hi (Nat.not_lt_zero _)) (by omega) (by unfold FUEL; omega)
  exact ⟨h1, e1, S1, r1⟩
/-- takeFrom: a giver's values in a set's fields -/
theorem p_take {c row S r : Nat} {h : MHp} {A : AS} (C : CR c h A) (W : WA A) (hr : r < aN A 2) (ho : ∀ f : Nat, f < bF (aB A) → hAI h (c + 186) f = nvX A row f) : ∃ h1 : MHp, mX5_takeFrom h (c + 185) (Int32.ofNat r) (Int32.ofNat S) = some h1 ∧ Sg c h h1 ∧ (∀ a : Nat, a ≠ c + 187 → a ≠ c + 188 → hAI h1 a = hAI h a) ∧ ∀ f : Nat, f < bF (aB A) → hAI h1 (c + 188) f = mixG S (nvX A row) (nvX A r) f := by
  have L := C.l
  have K := lK185 L
  have td := C.td
  have w6 := W.1.1
  obtain ⟨g, e1, eg⟩ := p_lay C W hr (k := 187) (Or.inr rfl)
  have e1' : mX9_load h (c + 56) (Int32.ofNat r) (aS A 3) 0 (some (c + 187)) = some (sAI h (c + 187) g) := e1
  obtain ⟨X, hX⟩ : ∃ X : MHp, X = sAI h (c + 187) g := ⟨_, rfl⟩
  rw [← hX] at e1'
  have SX : Sg c h X := by rw [hX]; exact ⟨Sc.AI 187 _ (by decide), rfl, fun a y _ _ => by rw [e_sAI, if_neg y]⟩
  have oX : ∀ a : Nat, a ≠ c + 187 → hAI X a = hAI h a := fun a ha => by rw [hX, e_sAI, if_neg ha]
  have LX := SX.1.CL L
  obtain ⟨h1, e2, S2, o2, r2⟩ := p_put (S := S) LX
  refine ⟨h1, ?_, SX.tr S2, fun a y z => by rw [o2 a z, oX a y], fun f hf => ?_⟩
  · rw [mX5_takeFrom, b_gR, if_pos K, lR185_0 L, b_gR, if_pos K, lR185_0 L, b_gI, if_pos (lK56 L), td, b_gR, if_pos K, lR185_3 L, b_rcv, if_pos (lK56 L), e1', o_bind, b_rcv, if_pos (lK185 LX), e2, o_bind]
  · rw [r2 f (by omega)]
    unfold mixG
    rw [oX (c + 186) (by omega), ho f hf, hX, e_sAI, if_pos rfl, eg f hf]

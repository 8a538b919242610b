/-! is it a word, a sign, a name -/
def wdN (i : Nat) : List Nat := (sxB.getD i []).map Int32.toNatClampNeg
def isW (t : Tok) (i : Nat) : Bool := decide (kK t = 1) && decide (kL t = wdN i)
theorem wd_WL : ∀ i : Nat, i < 9 → WL (wdN i) := by
  have h : ∀ i : Nat, i < 9 → (1 ≤ (wdN i).length ∧ (wdN i).length ≤ 8 ∧ (wdN i).all (fun b => decide (97 ≤ b) && decide (b ≤ 122)) = true) := by decide +kernel
  intro i hi
  obtain ⟨h1, h2, h3⟩ := h i hi
  refine ⟨h1, h2, fun b hb => ?_⟩
  have := List.all_eq_true.mp h3 b hb
  rw [Bool.and_eq_true, decide_eq_true_eq, decide_eq_true_eq] at this
  exact this
theorem cw0 : cwd (wdN 0) = 439854918756 := by decide +kernel
theorem cw1 : cwd (wdN 1) = 474148660594 := by decide +kernel
theorem cw2 : cwd (wdN 2) = 6385252 := by decide +kernel
theorem cw3 : cwd (wdN 3) = 427071729268 := by decide +kernel
theorem cw4 : cwd (wdN 4) = 7566701 := by decide +kernel
theorem cw5 : cwd (wdN 5) = 25209 := by decide +kernel
theorem cw6 : cwd (wdN 6) = 512852587109 := by decide +kernel
theorem cw7 : cwd (wdN 7) = 7630704 := by decide +kernel
theorem cw8 : cwd (wdN 8) = 1668248436 := by decide +kernel
theorem kK_5 {g : Nat → Int32} {n : Nat} {t : Tok} (G : GT g n t) : kK t < 5 := by
  obtain ⟨p, hp, rfl⟩ := G
  unfold tokAt tkOf
  by_cases a1 : run pSp g n p < run pLe g n (run pSp g n p)
  · rw [if_pos a1]
    by_cases a2 : run pLe g n (run pSp g n p) - run pSp g n p ≤ 8
    · rw [if_pos a2]; show 1 < 5; decide
    · rw [if_neg a2]; show 4 < 5; decide
  · rw [if_neg a1]
    by_cases a2 : run pSp g n p < run pDi g n (run pSp g n p)
    · rw [if_pos a2]
      by_cases a3 : run pDi g n (run pSp g n p) - run pSp g n p ≤ 4
      · rw [if_pos a3]; show 2 < 5; decide
      · rw [if_neg a3]; show 4 < 5; decide
    · rw [if_neg a2]
      by_cases a3 : run pSp g n p < n
      · rw [if_pos a3]
        by_cases a4 : pSg (g (run pSp g n p)) = true
        · rw [if_pos a4]; show 3 < 5; decide
        · rw [if_neg a4]; show 4 < 5; decide
      · rw [if_neg a3]; show 0 < 5; decide
theorem kd_c {k j : Nat} (hk : k < 5) (hj : j < 5) : (Int32.ofNat k = Int32.ofNat j) = (k = j) := eq_of (by omega) (by omega)
theorem p_isWord {c n i : Nat} {g : Nat → Int32} {t : Tok} {h : MHp} {w : Int64} (P : PC c g n t h) (G : GT g n t) (hi : i < 9) (hw : cwd (wdN i) = w) : mX8_isWord h (c + 55) w = some (if isW t i = true then 1 else 0) := by
  have K := lK55 P.1.1
  have k5 := kK_5 G
  by_cases e : kK t = 1
  · have ew : (lg_cmp (cwd (kL t)) w = 0) = (kL t = wdN i) := by
      rw [lg0, ← hw]
      exact propext ⟨fun hh => cwd_inj (tk_w G e).1 (wd_WL i hi) hh, fun hh => by rw [hh]⟩
    rw [mX8_isWord, b_gI, if_pos K, P.2.2.2.1, if_pos (by rw [e]; rfl), b_gL, if_pos K, P.w G e]
    unfold isW
    rw [decide_eq_true e, Bool.true_and]
    by_cases q : kL t = wdN i
    · rw [if_pos (by rw [ew]; exact q), if_pos (decide_eq_true q)]
    · rw [if_neg (by rw [ew]; exact q), if_neg (by rw [decide_eq_false q]; decide)]
  · rw [mX8_isWord, b_gI, if_pos K, P.2.2.2.1, if_neg (by rw [show (1 : Int32) = Int32.ofNat 1 from rfl, kd_c k5 (by omega)]; exact e)]
    unfold isW
    rw [decide_eq_false e, Bool.false_and, if_neg (by decide)]
theorem j_len (h : MHp) : ∀ i : Nat, i < 9 → mJ0_length_8abf5 h i = some (Int32.ofNat (sxL.getD i 0)) := by
  unfold mJ0_length_8abf5 mJ0_coder_7d493
  decide +kernel
theorem j_chr (h : MHp) : ∀ i : Nat, i < 9 → ∀ k : Nat, k < sxL.getD i 0 → mJ0_charAt_5068e h i (Int32.ofNat k) = some ((sxB.getD i []).getD k 0) := by
  unfold mJ0_charAt_5068e mJ0_isLatin1_aae02 mJ1_charAt_3b067 mJ0_checkIndex_df160 mJ3_checkIndex_8e157
  decide +kernel

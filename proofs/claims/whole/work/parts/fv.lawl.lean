/-! the law's loop -/
theorem ad_of (a b : Nat) : Int32.ofNat a + Int32.ofNat b = Int32.ofNat (a + b) := by simp
theorem gX_at {L v : Nat} {xs : Nat → Int32} (h : v < L) (hL : L ≤ 3584) : gX L xs (Int32.ofNat v) = some (xs v) := by
  unfold gX
  rw [cl_of (by omega), if_neg (fun e => by
    rcases e with e | e
    · exact nlt0 (by omega) e
    · omega)]
theorem lw_more {L v : Nat} (hL : L ≤ 3584) (hv : v ≤ 4000) (h : ¬ Int32.ofNat L - 7 < Int32.ofNat v) : v + 7 ≤ L := by
  by_cases e : 7 ≤ L
  · rw [show (7 : Int32) = Int32.ofNat 7 from rfl, sub_of e, lt_of' (by omega) (by omega)] at h
    omega
  · exfalso
    have h1 := Int32.not_lt.mp h
    have h0 : (0 : Int32) ≤ Int32.ofNat v := Int32.not_lt.mp (nlt0 (by omega))
    have h2 := Int32.le_trans h0 h1
    rcases (show L = 0 ∨ L = 1 ∨ L = 2 ∨ L = 3 ∨ L = 4 ∨ L = 5 ∨ L = 6 by omega) with rfl | rfl | rfl | rfl | rfl | rfl | rfl <;> exact absurd h2 (by decide)
theorem lw_x {α : Type} {c m : Nat} {h : MHp} {A : AS} {F : Option (α × MHp)} {G : MHp → Option (α × MHp)} (X : XS c m h A F G) (hm : m = c + 208) (R : RR m h A) : ∃ (v : α) (h1 h2 : MHp) (A' : AS), F = some (v, h1) ∧ G h1 = some (v, h2) ∧ hK h1 m = 17 ∧ WA A' ∧ CR c h2 A' ∧ RR m h2 A' := by
  obtain ⟨v, A', W', ⟨h1, e1, C1, O1⟩, r⟩ := X
  have R1 : RR m h1 A := R.ag (O1.2 _ _ (Or.inr (by omega))) (by rw [O1.1]; exact Nat.le_refl _)
  obtain ⟨h2, e2, R2, O2⟩ := r h1 R1
  exact ⟨v, h1, h2, A', e1, e2, qK0 R1.1.1, W', C1.ag W' (O2.2.sub (Nat.zero_le _) (by omega)), R2⟩
theorem lw_x0 {α : Type} {c m : Nat} {h : MHp} {A : AS} {F : Option α} {G : MHp → Option (α × MHp)} (X : XS0 m A F G) (hm : m = c + 208) (W : WA A) (C : CR c h A) (R : RR m h A) : ∃ (v : α) (h2 : MHp), F = some v ∧ G h = some (v, h2) ∧ CR c h2 A ∧ RR m h2 A := by
  obtain ⟨v, e1, r⟩ := X
  obtain ⟨h2, e2, R2, O2⟩ := r h R
  exact ⟨v, h2, e1, e2, C.ag W (O2.2.sub (Nat.zero_le _) (by omega)), R2⟩
theorem led_K {m : Nat} {h : MHp} {t i j w : Int32} {r : Int32 × MHp} (e : mX16_led h m t i j w = some r) : hK h m = 17 := by
  apply Classical.byContradiction
  intro n
  rw [mX16_led, b_pI, if_neg n] at e
  cases e
theorem lgs (x : Int64) : lg_cmp x x = 0 := by rw [lg0]

theorem lw_loop {c m L : Nat} {xs : Nat → Int32} (hm : m = c + 208) (hL : L ≤ 3584) : ∀ (q i : Nat) (h : MHp) (A : AS), i + q = 513 → 1 ≤ q → WA A → CR c h A → RR m h A → ∃ res : MHp, mL_law_l23 L xs q h (some c) (some m) (some (m + 25)) (Int32.ofNat (7 * i)) = some res := by
  intro q
  induction q with
  | zero => intro i h A _ h1; omega
  | succ q ih0 =>
    intro i h A hi h1 W C R
    obtain ⟨v, hv⟩ : ∃ v : Nat, v = 7 * i := ⟨_, rfl⟩
    rw [← hv]
    by_cases en : (Int32.ofNat L) - 7 < Int32.ofNat v
    · exact ⟨h, by rw [mL_law_l23, if_pos en]⟩
    · have hv7 := lw_more hL (by omega) en
      have ih : ∀ (h2 : MHp) (A' : AS), WA A' → CR c h2 A' → RR m h2 A' → ∃ res : MHp, mL_law_l23 L xs q h2 (some c) (some m) (some (m + 25)) (Int32.ofNat v + 7) = some res := fun h2 A' W' C' R' => by
        have := ih0 (i + 1) h2 A' (by omega) (by omega) W' C' R'
        rw [show 7 * (i + 1) = v + 7 by omega] at this
        rw [show (7 : Int32) = Int32.ofNat 7 from rfl, ad_of]
        exact this
      have KC := lK0 C.l
      have KM := qK0 R.1.1
      have g0 := gX_at (xs := xs) (show v < L by omega) hL
      have g1 : gX L xs (Int32.ofNat v + 1) = some (xs (v + 1)) := by rw [show (1 : Int32) = Int32.ofNat 1 from rfl, ad_of]; exact gX_at (by omega) hL
      have g2 : gX L xs (Int32.ofNat v + 2) = some (xs (v + 2)) := by rw [show (2 : Int32) = Int32.ofNat 2 from rfl, ad_of]; exact gX_at (by omega) hL
      have g3 : gX L xs (Int32.ofNat v + 3) = some (xs (v + 3)) := by rw [show (3 : Int32) = Int32.ofNat 3 from rfl, ad_of]; exact gX_at (by omega) hL
      have g4 : gX L xs (Int32.ofNat v + 4) = some (xs (v + 4)) := by rw [show (4 : Int32) = Int32.ofNat 4 from rfl, ad_of]; exact gX_at (by omega) hL
      have g5 : gX L xs (Int32.ofNat v + 5) = some (xs (v + 5)) := by rw [show (5 : Int32) = Int32.ofNat 5 from rfl, ad_of]; exact gX_at (by omega) hL
      have g6 : gX L xs (Int32.ofNat v + 6) = some (xs (v + 6)) := by rw [show (6 : Int32) = Int32.ofNat 6 from rfl, ad_of]; exact gX_at (by omega) hL
      rw [mL_law_l23, if_neg en, g0, o_bind]
      by_cases k0 : xs v &&& 63 = 0
      · rw [if_pos k0]
        obtain ⟨a, h1, h2, A', e1, e2, kk, W', C', R'⟩ := lw_x (x_feed C W (xs (v + 1)) (xs (v + 2)) (xs (v + 3)) (xs (v + 4)) (xs (v + 5))) hm R
        obtain ⟨res, er⟩ := ih h2 A' W' C' R'
        exact ⟨res, by rw [g1, g2, g3, g4, g5, o_bind, o_bind, o_bind, o_bind, o_bind, b_rcv, if_pos KC, e1, o_bind, o_bind, o_bind, o_bind, o_bind, o_bind, b_rcv, if_pos (by exact kk), e2, o_bind, if_pos rfl, er]⟩
      rw [if_neg k0]
      by_cases k1 : xs v &&& 63 = 1
      · rw [if_pos k1]
        obtain ⟨a, h1, h2, A', e1, e2, kk, W', C', R'⟩ := lw_x (x_book C W (xs (v + 1))) hm R
        obtain ⟨res, er⟩ := ih h2 A' W' C' R'
        exact ⟨res, by rw [g1, o_bind, b_rcv, if_pos KC, e1, o_bind, o_bind, b_rcv, if_pos (by exact kk), e2, o_bind, if_pos rfl, er]⟩
      rw [if_neg k1]
      by_cases k2 : xs v &&& 63 = 2
      · rw [if_pos k2]
        obtain ⟨a, h1, h2, A', e1, e2, kk, W', C', R'⟩ := lw_x (x_table C W (xs (v + 1))) hm R
        obtain ⟨res, er⟩ := ih h2 A' W' C' R'
        exact ⟨res, by rw [g1, o_bind, b_rcv, if_pos KC, e1, o_bind, o_bind, b_rcv, if_pos (by exact kk), e2, o_bind, if_pos rfl, er]⟩
      rw [if_neg k2]
      by_cases k3 : xs v &&& 63 = 3
      · rw [if_pos k3]
        obtain ⟨a, h2, e1, e2, C', R'⟩ := lw_x0 (x_fault C) hm W C R
        obtain ⟨res, er⟩ := ih h2 A W C' R'
        exact ⟨res, by rw [b_rcv, if_pos KC, e1, o_bind, b_rcv, if_pos KM, e2, o_bind, if_pos rfl, er]⟩
      rw [if_neg k3]
      by_cases k4 : xs v &&& 63 = 4
      · rw [if_pos k4]
        obtain ⟨a, h2, e1, e2, C', R'⟩ := lw_x0 (x_where C) hm W C R
        obtain ⟨res, er⟩ := ih h2 A W C' R'
        exact ⟨res, by rw [b_rcv, if_pos KC, e1, o_bind, b_rcv, if_pos KM, e2, o_bind, if_pos rfl, er]⟩
      rw [if_neg k4]
      by_cases k5 : xs v &&& 63 = 5
      · rw [if_pos k5]
        obtain ⟨a, h2, e1, e2, C', R'⟩ := lw_x0 (x_field C W (xs (v + 1)) (xs (v + 2))) hm W C R
        obtain ⟨res, er⟩ := ih h2 A W C' R'
        exact ⟨res, by rw [g1, g2, o_bind, o_bind, b_rcv, if_pos KC, e1, o_bind, o_bind, o_bind, b_rcv, if_pos KM, e2, o_bind, if_pos rfl, er]⟩
      rw [if_neg k5]
      by_cases k6 : xs v &&& 63 = 6
      · rw [if_pos k6]
        obtain ⟨a, h1, h2, A', e1, e2, kk, W', C', R'⟩ := lw_x (x_row C W (xs (v + 1)) (xs (v + 2)) (xs (v + 3)) (xs (v + 4)) (xs (v + 5)) (xs (v + 6))) hm R
        obtain ⟨res, er⟩ := ih h2 A' W' C' R'
        exact ⟨res, by rw [g1, g2, g3, g4, g5, g6, o_bind, o_bind, o_bind, o_bind, o_bind, o_bind, b_rcv, if_pos KC, e1, o_bind, o_bind, o_bind, o_bind, o_bind, o_bind, o_bind, b_rcv, if_pos (by exact kk), e2, o_bind, if_pos rfl, er]⟩
      rw [if_neg k6]
      by_cases k7 : xs v &&& 63 = 7
      · rw [if_pos k7]
        obtain ⟨a, h1, h2, A', e1, e2, kk, W', C', R'⟩ := lw_x (x_weight C W (xs (v + 1)) (xs (v + 2))) hm R
        obtain ⟨res, er⟩ := ih h2 A' W' C' R'
        exact ⟨res, by rw [g1, g2, o_bind, o_bind, b_rcv, if_pos KC, e1, o_bind, o_bind, o_bind, b_rcv, if_pos (by exact kk), e2, o_bind, if_pos rfl, er]⟩
      rw [if_neg k7]
      by_cases k8 : xs v &&& 63 = 8
      · rw [if_pos k8]
        obtain ⟨a, h1, h2, A', e1, e2, kk, W', C', R'⟩ := lw_x (x_withdraw C W (xs (v + 1))) hm R
        obtain ⟨res, er⟩ := ih h2 A' W' C' R'
        exact ⟨res, by rw [g1, o_bind, b_rcv, if_pos KC, e1, o_bind, o_bind, b_rcv, if_pos (by exact kk), e2, o_bind, if_pos rfl, er]⟩
      rw [if_neg k8]
      by_cases k9 : xs v &&& 63 = 9
      · rw [if_pos k9]
        obtain ⟨a, h2, e1, e2, C', R'⟩ := lw_x0 (x_value C W (xs (v + 1)) (xs (v + 2)) (xs (v + 3)) (xs (v + 4))) hm W C R
        obtain ⟨res, er⟩ := ih h2 A W C' R'
        exact ⟨res, by rw [g1, g2, g3, g4, o_bind, o_bind, o_bind, o_bind, b_rcv, if_pos KC, e1, o_bind, o_bind, o_bind, o_bind, o_bind, b_rcv, if_pos KM, e2, o_bind, if_pos rfl, er]⟩
      rw [if_neg k9]
      by_cases k10 : xs v &&& 63 = 10
      · rw [if_pos k10]
        obtain ⟨a, h1, h2, A', e1, e2, kk, W', C', R'⟩ := lw_x (x_of C W (xs (v + 1)) (xs (v + 2))) hm R
        obtain ⟨res, er⟩ := ih h2 A' W' C' R'
        exact ⟨res, by rw [g1, g2, o_bind, o_bind, b_rcv, if_pos KC, e1, o_bind, o_bind, o_bind, b_rcv, if_pos (by exact kk), e2, o_bind, if_pos rfl, er]⟩
      rw [if_neg k10]
      by_cases k11 : xs v &&& 63 = 11
      · rw [if_pos k11]
        obtain ⟨a, h1, h2, A', e1, e2, kk, W', C', R'⟩ := lw_x (x_mend C W (xs (v + 1))) hm R
        obtain ⟨res, er⟩ := ih h2 A' W' C' R'
        exact ⟨res, by rw [g1, o_bind, b_rcv, if_pos KC, e1, o_bind, o_bind, b_rcv, if_pos (by exact kk), e2, o_bind, if_pos rfl, er]⟩
      rw [if_neg k11]
      by_cases k12 : xs v &&& 63 = 12
      · rw [if_pos k12]
        obtain ⟨a, h2, e1, e2, C', R'⟩ := lw_x0 (x_giver C) hm W C R
        obtain ⟨res, er⟩ := ih h2 A W C' R'
        exact ⟨res, by rw [b_rcv, if_pos KC, e1, o_bind, b_rcv, if_pos KM, e2, o_bind, if_pos rfl, er]⟩
      rw [if_neg k12]
      by_cases k13 : xs v &&& 63 = 13
      · rw [if_pos k13]
        obtain ⟨a, h1, h2, A', e1, e2, kk, W', C', R'⟩ := lw_x (x_fill C W (xs (v + 1)) (xs (v + 2))) hm R
        obtain ⟨res, er⟩ := ih h2 A' W' C' R'
        exact ⟨res, by rw [g1, g2, o_bind, o_bind, b_rcv, if_pos KC, e1, o_bind, o_bind, o_bind, b_rcv, if_pos (by exact kk), e2, o_bind, if_pos rfl, er]⟩
      rw [if_neg k13]
      by_cases k14 : xs v &&& 63 = 14
      · rw [if_pos k14]
        obtain ⟨a, h1, h2, A', e1, e2, kk, W', C', R'⟩ := lw_x (x_pass C W (xs (v + 1))) hm R
        obtain ⟨res, er⟩ := ih h2 A' W' C' R'
        exact ⟨res, by rw [g1, o_bind, b_rcv, if_pos KC, e1, o_bind, o_bind, b_rcv, if_pos (by exact kk), e2, o_bind, if_pos rfl, er]⟩
      rw [if_neg k14]
      by_cases k15 : xs v &&& 63 = 15
      · rw [if_pos k15]
        obtain ⟨a, h1, h2, A', e1, e2, kk, W', C', R'⟩ := lw_x (x_figure C W (xs (v + 1)) (xs (v + 2)) (xs (v + 3)) (xs (v + 4)) (xs (v + 5))) hm R
        obtain ⟨res, er⟩ := ih h2 A' W' C' R'
        exact ⟨res, by rw [g1, g2, g3, g4, g5, o_bind, o_bind, o_bind, o_bind, o_bind, b_rcv, if_pos KC, e1, o_bind, o_bind, o_bind, o_bind, o_bind, o_bind, b_rcv, if_pos (by exact kk), e2, o_bind, if_pos (lgs _), er]⟩
      rw [if_neg k15]
      by_cases k16 : xs v &&& 63 = 16
      · rw [if_pos k16]
        by_cases f : xs (v + 4) = 0
        · skip
          obtain ⟨a, h1, h2, A', e1, e2, kk, W', C', R'⟩ := lw_x (x_span C W (xs (v + 1)) (xs (v + 2)) (xs (v + 3)) 0) hm R
          obtain ⟨res, er⟩ := ih h2 A' W' C' R'
          exact ⟨res, by rw [g1, g2, g3, g4, o_bind, o_bind, o_bind, o_bind, if_pos f, b_rcv, if_pos KC, e1, o_bind, o_bind, o_bind, o_bind, o_bind, if_pos f, b_rcv, if_pos (by exact kk), e2, o_bind, if_pos (lgs _), er]⟩
        · skip
          obtain ⟨a, h1, h2, A', e1, e2, kk, W', C', R'⟩ := lw_x (x_span C W (xs (v + 1)) (xs (v + 2)) (xs (v + 3)) 1) hm R
          obtain ⟨res, er⟩ := ih h2 A' W' C' R'
          exact ⟨res, by rw [g1, g2, g3, g4, o_bind, o_bind, o_bind, o_bind, if_neg f, b_rcv, if_pos KC, e1, o_bind, o_bind, o_bind, o_bind, o_bind, if_neg f, b_rcv, if_pos (by exact kk), e2, o_bind, if_pos (lgs _), er]⟩
      rw [if_neg k16]
      by_cases k17 : xs v &&& 63 = 17
      · rw [if_pos k17]
        obtain ⟨a, h1, h2, A', e1, e2, kk, W', C', R'⟩ := lw_x (x_far C W (xs (v + 1)) (xs (v + 2)) (xs (v + 3)) (xs (v + 4)) (xs (v + 5))) hm R
        obtain ⟨res, er⟩ := ih h2 A' W' C' R'
        exact ⟨res, by rw [g1, g2, g3, g4, g5, o_bind, o_bind, o_bind, o_bind, o_bind, b_rcv, if_pos KC, e1, o_bind, o_bind, o_bind, o_bind, o_bind, o_bind, b_rcv, if_pos (by exact kk), e2, o_bind, if_pos (lgs _), er]⟩
      rw [if_neg k17]
      by_cases k18 : xs v &&& 63 = 18
      · rw [if_pos k18]
        obtain ⟨a, h1, h2, A', e1, e2, kk, W', C', R'⟩ := lw_x (x_known C W (xs (v + 1)) (xs (v + 2)) (xs (v + 3))) hm R
        obtain ⟨res, er⟩ := ih h2 A' W' C' R'
        exact ⟨res, by rw [g1, g2, g3, o_bind, o_bind, o_bind, b_rcv, if_pos KC, e1, o_bind, o_bind, o_bind, o_bind, b_rcv, if_pos (by exact kk), e2, o_bind, if_pos rfl, er]⟩
      rw [if_neg k18]
      by_cases k19 : xs v &&& 63 = 19
      · rw [if_pos k19]
        by_cases f : xs (v + 4) = 0
        · skip
          obtain ⟨a, h1, h2, A', e1, e2, kk, W', C', R'⟩ := lw_x (x_agreed C W (xs (v + 1)) (xs (v + 2)) (xs (v + 3)) 0) hm R
          obtain ⟨res, er⟩ := ih h2 A' W' C' R'
          exact ⟨res, by rw [g1, g2, g3, g4, o_bind, o_bind, o_bind, o_bind, if_pos f, b_rcv, if_pos KC, e1, o_bind, o_bind, o_bind, o_bind, o_bind, if_pos f, b_rcv, if_pos (by exact kk), e2, o_bind, if_pos (lgs _), er]⟩
        · skip
          obtain ⟨a, h1, h2, A', e1, e2, kk, W', C', R'⟩ := lw_x (x_agreed C W (xs (v + 1)) (xs (v + 2)) (xs (v + 3)) 1) hm R
          obtain ⟨res, er⟩ := ih h2 A' W' C' R'
          exact ⟨res, by rw [g1, g2, g3, g4, o_bind, o_bind, o_bind, o_bind, if_neg f, b_rcv, if_pos KC, e1, o_bind, o_bind, o_bind, o_bind, o_bind, if_neg f, b_rcv, if_pos (by exact kk), e2, o_bind, if_pos (lgs _), er]⟩
      rw [if_neg k19]
      by_cases k20 : xs v &&& 63 = 20
      · rw [if_pos k20]
        obtain ⟨a, h1, h2, A', e1, e2, kk, W', C', R'⟩ := lw_x (x_group C W (xs (v + 1)) (xs (v + 2)) (xs (v + 3))) hm R
        obtain ⟨res, er⟩ := ih h2 A' W' C' R'
        exact ⟨res, by rw [g1, g2, g3, o_bind, o_bind, o_bind, b_rcv, if_pos KC, e1, o_bind, o_bind, o_bind, o_bind, b_rcv, if_pos (by exact kk), e2, o_bind, if_pos rfl, er]⟩
      rw [if_neg k20]
      by_cases k21 : xs v &&& 63 = 21
      · rw [if_pos k21]
        obtain ⟨a, h1, h2, A', e1, e2, kk, W', C', R'⟩ := lw_x (x_small C W (xs (v + 1)) (xs (v + 2)) (xs (v + 3)) (xs (v + 4))) hm R
        obtain ⟨res, er⟩ := ih h2 A' W' C' R'
        exact ⟨res, by rw [g1, g2, g3, g4, o_bind, o_bind, o_bind, o_bind, b_rcv, if_pos KC, e1, o_bind, o_bind, o_bind, o_bind, o_bind, b_rcv, if_pos (by exact kk), e2, o_bind, if_pos rfl, er]⟩
      rw [if_neg k21]
      by_cases k22 : xs v &&& 63 = 22
      · rw [if_pos k22]
        obtain ⟨a, h1, h2, A', e1, e2, kk, W', C', R'⟩ := lw_x (x_set C W (xs (v + 1)) (xs (v + 2))) hm R
        obtain ⟨res, er⟩ := ih h2 A' W' C' R'
        exact ⟨res, by rw [g1, g2, o_bind, o_bind, b_rcv, if_pos KC, e1, o_bind, o_bind, o_bind, b_rcv, if_pos (by exact kk), e2, o_bind, if_pos rfl, er]⟩
      rw [if_neg k22]
      by_cases k23 : xs v &&& 63 = 23
      · rw [if_pos k23]
        obtain ⟨a, h1, h2, A', e1, e2, kk, W', C', R'⟩ := lw_x (x_shy C W (xs (v + 1))) hm R
        obtain ⟨res, er⟩ := ih h2 A' W' C' R'
        exact ⟨res, by rw [g1, o_bind, b_rcv, if_pos KC, e1, o_bind, o_bind, b_rcv, if_pos (by exact kk), e2, o_bind, if_pos rfl, er]⟩
      rw [if_neg k23]
      by_cases k24 : xs v &&& 63 = 24
      · rw [if_pos k24]
        by_cases f : xs (v + 6) = 0
        · skip
          have X := x_edge (m := m) C W (xs (v + 1)) (xs (v + 2)) (xs (v + 3)) ((xs (v + 4)).toInt64 <<< ((32 : Int32).toInt64 &&& 63) ||| (xs (v + 5)).toInt64 &&& 4294967295) false
          rw [show mi false = 0 from rfl] at X
          obtain ⟨a, h1, h2, A', e1, e2, kk, W', C', R'⟩ := lw_x (X) hm R
          obtain ⟨res, er⟩ := ih h2 A' W' C' R'
          exact ⟨res, by rw [g1, g2, g3, g4, g5, g6, o_bind, o_bind, o_bind, o_bind, o_bind, o_bind, if_pos f, b_rcv, if_pos KC, e1, o_bind, o_bind, o_bind, o_bind, o_bind, o_bind, o_bind, if_pos f, b_rcv, if_pos (by exact kk), e2, o_bind, if_pos rfl, er]⟩
        · skip
          have X := x_edge (m := m) C W (xs (v + 1)) (xs (v + 2)) (xs (v + 3)) ((xs (v + 4)).toInt64 <<< ((32 : Int32).toInt64 &&& 63) ||| (xs (v + 5)).toInt64 &&& 4294967295) true
          rw [show mi true = 1 from rfl] at X
          obtain ⟨a, h1, h2, A', e1, e2, kk, W', C', R'⟩ := lw_x (X) hm R
          obtain ⟨res, er⟩ := ih h2 A' W' C' R'
          exact ⟨res, by rw [g1, g2, g3, g4, g5, g6, o_bind, o_bind, o_bind, o_bind, o_bind, o_bind, if_neg f, b_rcv, if_pos KC, e1, o_bind, o_bind, o_bind, o_bind, o_bind, o_bind, o_bind, if_neg f, b_rcv, if_pos (by exact kk), e2, o_bind, if_pos rfl, er]⟩
      rw [if_neg k24]
      by_cases k25 : xs v &&& 63 = 25
      · rw [if_pos k25]
        obtain ⟨a, h1, h2, A', e1, e2, kk, W', C', R'⟩ := lw_x (x_wide C W (xs (v + 1)) ((xs (v + 2)).toInt64 <<< ((32 : Int32).toInt64 &&& 63) ||| (xs (v + 3)).toInt64 &&& 4294967295)) hm R
        obtain ⟨res, er⟩ := ih h2 A' W' C' R'
        exact ⟨res, by rw [g1, g2, g3, o_bind, o_bind, o_bind, b_rcv, if_pos KC, e1, o_bind, o_bind, o_bind, o_bind, b_rcv, if_pos (by exact kk), e2, o_bind, if_pos rfl, er]⟩
      rw [if_neg k25]
      by_cases k26 : xs v &&& 63 = 26
      · rw [if_pos k26]
        obtain ⟨a, h1, h2, A', e1, e2, kk, W', C', R'⟩ := lw_x (x_least C W (xs (v + 1))) hm R
        obtain ⟨res, er⟩ := ih h2 A' W' C' R'
        exact ⟨res, by rw [g1, o_bind, b_rcv, if_pos KC, e1, o_bind, o_bind, b_rcv, if_pos (by exact kk), e2, o_bind, if_pos rfl, er]⟩
      rw [if_neg k26]
      by_cases k27 : xs v &&& 63 = 27
      · rw [if_pos k27]
        obtain ⟨a, h1, h2, A', e1, e2, kk, W', C', R'⟩ := lw_x (x_differing C W (xs (v + 1)) (xs (v + 2))) hm R
        obtain ⟨res, er⟩ := ih h2 A' W' C' R'
        exact ⟨res, by rw [g1, g2, o_bind, o_bind, b_rcv, if_pos KC, e1, o_bind, o_bind, o_bind, b_rcv, if_pos (by exact kk), e2, o_bind, if_pos rfl, er]⟩
      rw [if_neg k27]
      by_cases k28 : xs v &&& 63 = 28
      · rw [if_pos k28]
        obtain ⟨a, h1, h2, A', e1, e2, kk, W', C', R'⟩ := lw_x (x_lot C W (xs (v + 1))) hm R
        obtain ⟨res, er⟩ := ih h2 A' W' C' R'
        exact ⟨res, by rw [g1, o_bind, b_rcv, if_pos KC, e1, o_bind, o_bind, b_rcv, if_pos (by exact kk), e2, o_bind, if_pos rfl, er]⟩
      rw [if_neg k28]
      by_cases k29 : xs v &&& 63 = 29
      · rw [if_pos k29]
        obtain ⟨a, h1, h2, A', e1, e2, kk, W', C', R'⟩ := lw_x (x_noise C W (xs (v + 1)) (xs (v + 2)) (xs (v + 3))) hm R
        obtain ⟨res, er⟩ := ih h2 A' W' C' R'
        exact ⟨res, by rw [g1, g2, g3, o_bind, o_bind, o_bind, b_rcv, if_pos KC, e1, o_bind, o_bind, o_bind, o_bind, b_rcv, if_pos (by exact kk), e2, o_bind, if_pos (lgs _), er]⟩
      rw [if_neg k29]
      by_cases k30 : xs v &&& 63 = 30
      · rw [if_pos k30]
        obtain ⟨a, h1, b, h2, e1, e2, e3, e4, C', R'⟩ := x_led hm C W R (xs (v + 1)) (xs (v + 2)) (xs (v + 3)) (xs (v + 4))
        obtain ⟨res, er⟩ := ih h2 A W C' R'
        have kk := led_K e2
        have KM2 := qK0 R'.1.1
        have K25 := qK25 R'.1.1
        have N25 := qN25 R'.1.1
        have bd : ¬ bad (0 : Int32) 1 = true := by decide
        by_cases a0 : a = 0
        · exact ⟨res, by rw [g1, g2, g3, g4, o_bind, o_bind, o_bind, o_bind, e1, o_bind, o_bind, o_bind, o_bind, o_bind, b_rcv, if_pos (by exact kk), e2, o_bind, b_rcv, if_pos (by exact KM2), e3, o_bind, if_pos rfl, if_pos (by exact a0), b_gAL, if_pos (by exact K25), N25, if_neg bd, show (0 : Int32).toNatClampNeg = 0 from rfl, e4 a0, if_pos (lgs _), er]⟩
        · exact ⟨res, by rw [g1, g2, g3, g4, o_bind, o_bind, o_bind, o_bind, e1, o_bind, o_bind, o_bind, o_bind, o_bind, b_rcv, if_pos (by exact kk), e2, o_bind, b_rcv, if_pos (by exact KM2), e3, o_bind, if_pos rfl, if_neg (by exact a0), er]⟩
      rw [if_neg k30]
      by_cases k31 : xs v &&& 63 = 31
      · rw [if_pos k31]
        obtain ⟨a, h1, h2, A', e1, e2, kk, W', C', R'⟩ := lw_x (x_count C W (xs (v + 1))) hm R
        obtain ⟨res, er⟩ := ih h2 A' W' C' R'
        exact ⟨res, by rw [g1, o_bind, b_rcv, if_pos KC, e1, o_bind, o_bind, b_rcv, if_pos (by exact kk), e2, o_bind, if_pos rfl, er]⟩
      rw [if_neg k31]
      by_cases k32 : xs v &&& 63 = 32
      · rw [if_pos k32]
        obtain ⟨a, h2, e1, e2, C', R'⟩ := lw_x0 (x_trouble C) hm W C R
        obtain ⟨res, er⟩ := ih h2 A W C' R'
        exact ⟨res, by rw [b_rcv, if_pos KC, e1, o_bind, b_rcv, if_pos KM, e2, o_bind, if_pos rfl, er]⟩
      rw [if_neg k32]
      exact ih h A W C R

/-! reading a book: the class's loop -/
def bkR (g : Nat → Int32) (n : Nat) : Nat → Bk → Tok → Int32 × Tok × Bk
  | 0, B, t => (0, t, B)
  | q + 1, B, t => if rlF g n B t = 0 then (if kK (rlT g n B t) = 0 then (0, rlT g n B t, rlB g n B t) else (if kK (rlT g n B t) = 3 ∧ kV (rlT g n B t) = 59 then bkR g n q (rlB g n B t) (nxt g n (rlT g n B t)) else (1, rlT g n B t, rlB g n B t))) else (rlF g n B t, rlT g n B t, B)
theorem bkR_s (g : Nat → Int32) (n q : Nat) (B : Bk) (t : Tok) : bkR g n (q + 1) B t = if rlF g n B t = 0 then (if kK (rlT g n B t) = 0 then (0, rlT g n B t, rlB g n B t) else (if kK (rlT g n B t) = 3 ∧ kV (rlT g n B t) = 59 then bkR g n q (rlB g n B t) (nxt g n (rlT g n B t)) else (1, rlT g n B t, rlB g n B t))) else (rlF g n B t, rlT g n B t, B) := (rfl)
/-- a line that was read is one field or one rule more -/
theorem rl_more {g : Nat → Int32} {n : Nat} {B : Bk} {t : Tok} (h : rlF g n B t = 0) : bF (rlB g n B t) + bN (rlB g n B t) = bF B + bN B + 1 ∧ (bF B < 6 ∨ bN B < 12) := by
  unfold rlF at h
  unfold rlB
  by_cases a0 : isW t 0 = true
  · rw [if_pos a0] at h
    rw [if_pos a0]
    have := (rfF_0 h).2.2.1
    unfold rfB
    rw [addF_F, addF_N]
    exact ⟨by omega, Or.inl this⟩
  · rw [if_neg a0] at h
    rw [if_neg a0, addN_F, addN_N]
    by_cases a1 : isW t 1 = true
    · rw [if_pos a1] at h
      unfold nvF at h
      by_cases a2 : bN B < 12
      · exact ⟨by omega, Or.inr a2⟩
      · rw [if_neg a2] at h; exact absurd h n50
    · rw [if_neg a1] at h; exact absurd h n10
theorem CFB.tr {c bo : Nat} {h h1 : MHp} {F : Option (Int32 × MHp)} {f : Int32} {t : Tok} (Fx : FB c bo h h1) (C : CFB c bo h1 F f t) : CFB c bo h F f t := by
  obtain ⟨h2, e, F2, a, b⟩ := C
  exact ⟨h2, e, Fx.tr F2, a, b⟩
theorem p_lines {c bo n : Nat} {g : Nat → Int32} (hbo : bo = c + 2 ∨ bo = c + 57) : ∀ (q : Nat) (B : Bk) (t : Tok) (h : MHp) (fu v : Nat), bF B + bN B + q = 19 → 1 ≤ q → q < fu → v + q ≤ 400 → WBk B → GT g n t → Kb c bo g n B t h → ((bkR g n q B t).1 ≠ 0 ∧ CFB c bo h (mX8_readBook_l12 fu h (c + 55) (Int32.ofNat v)) (bkR g n q B t).1 (bkR g n q B t).2.1) ∨ (bkR g n q B t).1 = 0 ∧ WBk (bkR g n q B t).2.2 ∧ ∃ h' : MHp, mX8_readBook_l12 fu h (c + 55) (Int32.ofNat v) = some (1, h') ∧ FB c bo h h' ∧ hI h' (c + 55) 1 = hI h (c + 55) 1 ∧ Kb c bo g n (bkR g n q B t).2.2 (bkR g n q B t).2.1 h' := by
  intro q
  induction q with
  | zero => intro B t h fu v _ h1; omega
  | succ q ih =>
    intro B t h fu v hq h1 hfu hv W G K
    obtain ⟨fu, rfl⟩ : ∃ g : Nat, fu = g + 1 := ⟨fu - 1, by omega⟩
    have K55 := lK55 K.1.1.1
    have n500 : ¬ (500 : Int32) < Int32.ofNat v := by rw [show (500 : Int32) = Int32.ofNat 500 from rfl, lt_of' (by omega) (by omega)]; omega
    rw [bkR_s]
    rcases p_readLine hbo W G K with ⟨ne, h2, e2, F2, f2, x2⟩ | ⟨e0, W2, G2, h2, e2, F2, f2, K2⟩
    · rw [if_neg ne]
      left
      exact ⟨ne, h2, by rw [mX8_readBook_l12, if_neg n500, b_rcv, if_pos K55, e2, o_bind, if_pos rfl], F2, f2, x2⟩
    · rw [if_pos e0]
      obtain ⟨m1, m2⟩ := rl_more e0
      have P2 := K2.1
      have K552 := lK55 P2.1.1
      have k5 := kK_5 G2
      have kd : (Int32.ofNat (kK (rlT g n B t)) = 0) = (kK (rlT g n B t) = 0) := by rw [show (0 : Int32) = Int32.ofNat 0 from rfl, kd_c k5 (by omega)]
      have is := p_isSign P2 G2 59
      have w12 := W.1.2.1
      have w6 := W.1.1
      by_cases a0 : kK (rlT g n B t) = 0
      · rw [if_pos a0]
        right
        refine ⟨rfl, W2, h2, ?_, F2, f2, K2⟩
        rw [mX8_readBook_l12, if_neg n500, b_rcv, if_pos K55, e2, o_bind, if_neg n10, b_gI, if_pos K552, P2.2.2.2.1, if_pos (by rw [kd]; exact a0)]
      · rw [if_neg a0]
        by_cases a1 : kK (rlT g n B t) = 3 ∧ kV (rlT g n B t) = 59
        · rw [if_pos a1] at is
          rw [if_pos a1]
          obtain ⟨h3, e3, S3, P3, G3⟩ := P2.st (by omega)
          have K3 := K2.sp hbo W2.1.2.1 S3 P3
          have F3 : FB c bo h2 h3 := (S3.ft (u := bo)).fb (by omega)
          have base : mX8_readBook_l12 (fu + 1) h (c + 55) (Int32.ofNat v) = mX8_readBook_l12 fu h3 (c + 55) (Int32.ofNat (v + 1)) := by
            rw [mX8_readBook_l12, if_neg n500, b_rcv, if_pos K55, e2, o_bind, if_neg n10, b_gI, if_pos K552, P2.2.2.2.1, if_neg (by rw [kd]; exact a0), b_rcv, if_pos K552, is, o_bind, if_neg n10, b_rcv, if_pos K552, e3, o_bind, s1_of]
          rw [base]
          have q1 : 1 ≤ q := by
            rcases m2 with m2 | m2 <;> omega
          rcases ih (rlB g n B t) _ h3 fu (v + 1) (by omega) q1 (by omega) (by omega) W2 G3 K3 with ⟨b1, b2⟩ | ⟨b1, b2, h4, e4, F4x, f4, K4⟩
          · exact Or.inl ⟨b1, b2.tr (F2.tr F3)⟩
          · exact Or.inr ⟨b1, b2, h4, e4, (F2.tr F3).tr F4x, by rw [f4, S3.2.2.2.2.2.2.2.2.2, f2], K4⟩
        · rw [if_neg a1] at is
          rw [if_neg a1]
          left
          refine ⟨n10, sI h2 (c + 55) 1 1, ?_, F2.tr ((FT.I1 (u := bo) 1).fb (by omega)), e_Iself _ _ _ _, by rw [e_sI, if_neg (by omega)]; exact P2.2.2.1⟩
          rw [mX8_readBook_l12, if_neg n500, b_rcv, if_pos K55, e2, o_bind, if_neg n10, b_gI, if_pos K552, P2.2.2.2.1, if_neg (by rw [kd]; exact a0), b_rcv, if_pos K552, is, o_bind, if_pos rfl, b_rcv, if_pos K552, mX8_fail, b_pI, if_pos K552, o_bind, rB0, o_bind]

/-! reading a book: the reference's loop -/
def RFb {α : Type} (m b : Nat) (h : MHp) (F : Option ((α ⊕ Nat) × MHp)) (f : Int32) (t : Tok) : Prop := ∃ h2 : MHp, F = some (Sum.inr (m + 2), h2) ∧ FR m b h h2 ∧ hI h2 (m + 2) 6 = f ∧ hI h2 (m + 2) 7 = Int32.ofNat (kS t)
theorem RFb.tr {α : Type} {m u : Nat} {h h1 : MHp} {F : Option ((α ⊕ Nat) × MHp)} {f : Int32} {t : Tok} (Fx : FR m u h h1) (C : RFb m u h1 F f t) : RFb m u h F f t := by
  obtain ⟨h2, e, F2, a, b⟩ := C
  exact ⟨h2, e, Fx.tr F2, a, b⟩
/-- what follows a line: `;` and the next, or the end -/
theorem q_after {m b n : Nat} {g : Nat → Int32} {B : Bk} {t : Tok} {h : MHp} (hb : ∀ k : Nat, (g k).toInt8.toInt32 = g k) (G : GT g n t) (Q : Qb m b g n B t h) (k : MHp → Nat → Int32 → Option ((Unit ⊕ Nat) × MHp)) : (kK t = 3 ∧ kV t = 59 → ∃ h1 : MHp, FR m b h h1 ∧ Qb m b g n B (nxt g n t) h1 ∧ ((rcv 17 h (some m)).bind fun b18 => (mX16_is h b18 59).bind fun r17 => (if r17 = 0 then k h m r17 else (rcv 17 h (some m)).bind fun b20 => (mX16_next h b20).bind fun r19 => k r19 m r17)) = k h1 m 1) ∧ (¬ (kK t = 3 ∧ kV t = 59) → ((rcv 17 h (some m)).bind fun b18 => (mX16_is h b18 59).bind fun r17 => (if r17 = 0 then k h m r17 else (rcv 17 h (some m)).bind fun b20 => (mX16_next h b20).bind fun r19 => k r19 m r17)) = k h m 0) := by
  obtain ⟨P, b5, R⟩ := Q
  have L := P.1.1
  have is := q_is P G 59
  refine ⟨fun hh => ?_, fun hh => ?_⟩
  · rw [if_pos hh] at is
    obtain ⟨h1, e1, S1, P1⟩ := P.st hb (by omega)
    have F1 : FQ m b h h1 := S1.fq
    refine ⟨h1, F1.fr, ⟨P1, by rw [S1.2.2.1]; exact b5, ?_⟩, by rw [b_rcv, if_pos (qK0 L), is, o_bind, if_neg n10, b_rcv, if_pos (qK0 L), e1, o_bind]⟩
    have bS := R.2.2.2.2.1
    exact RB.ag (fun a x y => ⟨by rw [S1.1], by rw [S1.2.1], (S1.2.2.2.2.2.2.2.1 a (by omega)).1, (S1.2.2.2.2.2.2.2.1 a (by omega)).2, by rw [S1.2.2.1], by rw [S1.2.2.2.2.1], by rw [S1.2.2.2.2.2.1], by rw [S1.2.2.2.1]⟩) F1.1 R
  · rw [if_neg hh] at is
    rw [b_rcv, if_pos (qK0 L), is, o_bind, if_pos rfl]
theorem q_lines {m b n : Nat} {g : Nat → Int32} (hb : ∀ k : Nat, (g k).toInt8.toInt32 = g k) : ∀ (q : Nat) (B : Bk) (t : Tok) (h : MHp) (fu : Nat), bF B + bN B + q = 19 → 1 ≤ q → q + 1 ≤ fu → WBk B → GT g n t → GT g n (rlT g n B t) ∨ True → Qb m b g n B t h → (∀ (q : Nat) (B : Bk) (t : Tok), WBk B → GT g n t → rlF g n B t = 0 → WBk (rlB g n B t) ∧ GT g n (rlT g n B t)) → ((bkR g n q B t).1 ≠ 0 → RFb m b h (mX16_readBook_l2 fu h m 1) (bkR g n q B t).1 (bkR g n q B t).2.1) ∧ ((bkR g n q B t).1 = 0 → ∃ h' : MHp, mX16_readBook_l2 fu h m 1 = some (Sum.inl (), h') ∧ FR m b h h' ∧ Qb m b g n (bkR g n q B t).2.2 (bkR g n q B t).2.1 h') := by
  intro q
  induction q with
  | zero => intro B t h fu _ h1; omega
  | succ q ih =>
    intro B t h fu hq h1 hfu W G _ Q ok
    obtain ⟨fu, rfl⟩ : ∃ g : Nat, fu = g + 2 := ⟨fu - 2, by omega⟩
    have P := Q.1
    have L := P.1.1
    have iw0 := q_isWord P G (show 0 < 9 by omega)
    have iw1 := q_isWord P G (show 1 < 9 by omega)
    have w12 := W.1.2.1
    have w6 := W.1.1
    rw [bkR_s]
    -- a line that was read
    have line : ∀ h2 : MHp, rlF g n B t = 0 → FR m b h h2 → Qb m b g n (rlB g n B t) (rlT g n B t) h2 → mX16_readBook_l2 (fu + 2) h m 1 = ((rcv 17 h2 (some m)).bind fun b18 => (mX16_is h2 b18 59).bind fun r17 => (if r17 = 0 then mX16_readBook_l2 (fu + 1) h2 m r17 else (rcv 17 h2 (some m)).bind fun b20 => (mX16_next h2 b20).bind fun r19 => mX16_readBook_l2 (fu + 1) r19 m r17)) → ((if rlF g n B t = 0 then (if kK (rlT g n B t) = 0 then (0, rlT g n B t, rlB g n B t) else (if kK (rlT g n B t) = 3 ∧ kV (rlT g n B t) = 59 then bkR g n q (rlB g n B t) (nxt g n (rlT g n B t)) else (1, rlT g n B t, rlB g n B t))) else (rlF g n B t, rlT g n B t, B)).1 ≠ 0 → RFb m b h (mX16_readBook_l2 (fu + 2) h m 1) (if rlF g n B t = 0 then (if kK (rlT g n B t) = 0 then (0, rlT g n B t, rlB g n B t) else (if kK (rlT g n B t) = 3 ∧ kV (rlT g n B t) = 59 then bkR g n q (rlB g n B t) (nxt g n (rlT g n B t)) else (1, rlT g n B t, rlB g n B t))) else (rlF g n B t, rlT g n B t, B)).1 (if rlF g n B t = 0 then (if kK (rlT g n B t) = 0 then (0, rlT g n B t, rlB g n B t) else (if kK (rlT g n B t) = 3 ∧ kV (rlT g n B t) = 59 then bkR g n q (rlB g n B t) (nxt g n (rlT g n B t)) else (1, rlT g n B t, rlB g n B t))) else (rlF g n B t, rlT g n B t, B)).2.1) ∧ ((if rlF g n B t = 0 then (if kK (rlT g n B t) = 0 then (0, rlT g n B t, rlB g n B t) else (if kK (rlT g n B t) = 3 ∧ kV (rlT g n B t) = 59 then bkR g n q (rlB g n B t) (nxt g n (rlT g n B t)) else (1, rlT g n B t, rlB g n B t))) else (rlF g n B t, rlT g n B t, B)).1 = 0 → ∃ h' : MHp, mX16_readBook_l2 (fu + 2) h m 1 = some (Sum.inl (), h') ∧ FR m b h h' ∧ Qb m b g n (if rlF g n B t = 0 then (if kK (rlT g n B t) = 0 then (0, rlT g n B t, rlB g n B t) else (if kK (rlT g n B t) = 3 ∧ kV (rlT g n B t) = 59 then bkR g n q (rlB g n B t) (nxt g n (rlT g n B t)) else (1, rlT g n B t, rlB g n B t))) else (rlF g n B t, rlT g n B t, B)).2.2 (if rlF g n B t = 0 then (if kK (rlT g n B t) = 0 then (0, rlT g n B t, rlB g n B t) else (if kK (rlT g n B t) = 3 ∧ kV (rlT g n B t) = 59 then bkR g n q (rlB g n B t) (nxt g n (rlT g n B t)) else (1, rlT g n B t, rlB g n B t))) else (rlF g n B t, rlT g n B t, B)).2.1 h') := fun h2 e0 F2 Q2 base => by
      rw [if_pos e0]
      obtain ⟨W2, G2⟩ := ok q B t W G e0
      obtain ⟨m1, m2⟩ := rl_more e0
      obtain ⟨y1, y2⟩ := q_after hb G2 Q2 (mX16_readBook_l2 (fu + 1))
      have P2 := Q2.1
      have L2 := P2.1.1
      have k5 := kK_5 G2
      by_cases a0 : kK (rlT g n B t) = 0
      · rw [if_pos a0, base, y2 (by omega)]
        refine ⟨fun hh => absurd rfl hh, fun _ => ⟨h2, ?_, F2, Q2⟩⟩
        rw [mX16_readBook_l2, if_pos rfl, b_gI, if_pos (qK0 L2), P2.2.2.2.1, if_pos (by rw [rcd_0 k5]; exact a0)]
      · rw [if_neg a0]
        by_cases a1 : kK (rlT g n B t) = 3 ∧ kV (rlT g n B t) = 59
        · rw [if_pos a1]
          obtain ⟨h3, F3, Q3, e3⟩ := y1 a1
          rw [base, e3]
          obtain ⟨z1, z2⟩ := ih (rlB g n B t) _ h3 (fu + 1) (by omega) (by rcases m2 with m2 | m2 <;> omega) (by omega) W2 G2.nx (Or.inr trivial) Q3 ok
          refine ⟨fun hh => (z1 hh).tr (F2.tr F3), fun hh => ?_⟩
          obtain ⟨h4, e4, F4x, Q4⟩ := z2 hh
          exact ⟨h4, e4, (F2.tr F3).tr F4x, Q4⟩
        · rw [if_neg a1, base, y2 a1]
          refine ⟨fun _ => ?_, fun hh => absurd hh n10⟩
          have fs : FQ m b h2 (sI (sI h2 (m + 2) 6 1) (m + 2) 7 (hI h2 m 14)) := FQ.stop 1
          refine ⟨_, ?_, F2.tr fs.fr, by rw [e_sI, if_neg (by omega), e_Iself], by rw [e_Iself]; exact P2.2.2.1⟩
          rw [mX16_readBook_l2, if_pos rfl, b_gI, if_pos (qK0 L2), P2.2.2.2.1, if_neg (by rw [rcd_0 k5]; exact a0), b_rcv, if_pos (qK0 L2), q_thr L2]
    by_cases a0 : isW t 0 = true
    · rw [if_pos a0] at iw0
      have eF : rlF g n B t = rfF g n B (nxt g n t) := by unfold rlF; rw [if_pos a0]
      have eB : rlB g n B t = rfB g n B (nxt g n t) := by unfold rlB; rw [if_pos a0]
      obtain ⟨r1, r2⟩ := q_readField hb W G (isW_1 a0) Q
      by_cases e0 : rlF g n B t = 0
      · have e0' : rfF g n B (nxt g n t) = 0 := by rw [← eF]; exact e0
        have eT : rlT g n B t = rfN g n (nxt g n t) := by unfold rlT; rw [if_pos a0, if_pos e0']
        obtain ⟨h2, e2, F2, Q2⟩ := r2 e0'
        refine line h2 e0 F2.fr (by rw [eB, eT]; exact Q2) ?_
        rw [mX16_readBook_l2, if_neg n10, b_rcv, if_pos (qK0 L), iw0, o_bind, if_neg n10, b_rcv, if_pos (qK0 L), e2, o_bind]
      · have e0' : rfF g n B (nxt g n t) ≠ 0 := by rw [← eF]; exact e0
        have eT : rlT g n B t = rfT g n B (nxt g n t) := by unfold rlT; rw [if_pos a0, if_neg e0']
        rw [if_neg e0]
        refine ⟨fun _ => ?_, fun hh => absurd hh e0⟩
        obtain ⟨h2, e2, F2, f2, x2⟩ := r1 e0'
        refine ⟨h2, ?_, F2.fr, by rw [f2, eF], by rw [x2, eT]⟩
        rw [mX16_readBook_l2, if_neg n10, b_rcv, if_pos (qK0 L), iw0, o_bind, if_neg n10, b_rcv, if_pos (qK0 L), e2, o_bind]
    · rw [if_neg a0] at iw0
      by_cases a1 : isW t 1 = true
      · rw [if_pos a1] at iw1
        have eF : rlF g n B t = nvF g n B t := by unfold rlF; rw [if_neg a0, if_pos a1]
        have eB : rlB g n B t = addN B (tstR g n B (nxt g n t)).2.2 := by unfold rlB; rw [if_neg a0]
        have eT : rlT g n B t = nvT g n B t := by unfold rlT; rw [if_neg a0, if_pos a1]
        obtain ⟨r1, r2⟩ := q_readNever hb W G (isW_1 a1) Q
        by_cases e0 : rlF g n B t = 0
        · have e0' : nvF g n B t = 0 := by rw [← eF]; exact e0
          have b12 : bN B < 12 := by
            apply Classical.byContradiction
            intro hn
            unfold nvF at e0'
            rw [if_neg hn] at e0'
            exact absurd e0' n50
          have eT2 : nvT g n B t = (tstR g n B (nxt g n t)).2.1 := by unfold nvT; rw [if_pos b12]
          obtain ⟨h2, e2, F2, Q2⟩ := r2 e0'
          refine line h2 e0 F2 (by rw [eB, eT, eT2]; exact Q2) ?_
          rw [mX16_readBook_l2, if_neg n10, b_rcv, if_pos (qK0 L), iw0, o_bind, if_pos rfl, b_rcv, if_pos (qK0 L), iw1, o_bind, if_neg n10, b_rcv, if_pos (qK0 L), e2, o_bind]
        · have e0' : nvF g n B t ≠ 0 := by rw [← eF]; exact e0
          rw [if_neg e0]
          refine ⟨fun _ => ?_, fun hh => absurd hh e0⟩
          obtain ⟨h2, e2, F2, f2, x2⟩ := r1 e0'
          refine ⟨h2, ?_, F2.fr, by rw [f2, eF], by rw [x2, eT]⟩
          rw [mX16_readBook_l2, if_neg n10, b_rcv, if_pos (qK0 L), iw0, o_bind, if_pos rfl, b_rcv, if_pos (qK0 L), iw1, o_bind, if_neg n10, b_rcv, if_pos (qK0 L), e2, o_bind]
      · rw [if_neg a1] at iw1
        have eF : rlF g n B t = 1 := by unfold rlF; rw [if_neg a0, if_neg a1]
        have eT : rlT g n B t = t := by unfold rlT; rw [if_neg a0, if_neg a1]
        rw [eF, if_neg n10, eT]
        have fs : FQ m b h (sI (sI h (m + 2) 6 1) (m + 2) 7 (hI h m 14)) := FQ.stop 1
        refine ⟨fun _ => ⟨_, ?_, fs.fr, by rw [e_sI, if_neg (by omega), e_Iself], by rw [e_Iself]; exact P.2.2.1⟩, fun hh => absurd hh n10⟩
        rw [mX16_readBook_l2, if_neg n10, b_rcv, if_pos (qK0 L), iw0, o_bind, if_pos rfl, b_rcv, if_pos (qK0 L), iw1, o_bind, if_pos rfl, b_rcv, if_pos (qK0 L), q_thr L]

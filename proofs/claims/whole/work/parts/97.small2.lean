/-! small, the reference's side -/
theorem q_want {m b k : Nat} {p r : Nat} {h : MHp} {A : AS} (W : WA A) (hk : k < aN A 1) (Q : RQ m b (aN A 2) h A) (P : RP (m + 26) h p (aP A k)) (xe : ∀ f : Nat, f < bF (aB A) → hAI h (m + 13) f = vX A r (aS A 3) 0 f) (k9 : MHp → Nat → Option Nat → Int32 → Int32 → Int32 → Int32 → Int32 → Int32 → Option (Int32 × MHp)) (f u l a s j : Int32) : mX16_thousandths_b137 k9 h m (some p) f u l a s j 1 = k9 h m (some p) f u l (a + 1) (if smH A k r = true then s + 1 else s) (j + 1) := by
  have L := Q.1.1
  have K := qK0 L
  have wt := (W.2.2.2.2.2.1 k hk).2.2.2.2
  have h6 := W.1.1
  rw [mX16_thousandths_b137, if_neg n10, b_gR, if_pos P.1.1]
  rcases P.2.2.2.2.2 with ⟨t1, t2⟩ | ⟨t, t1, t2, t3, t4⟩
  · have th : smH A k r = true := by
      unfold smH tH
      rw [t1]; rfl
    rw [t2, if_pos rfl, if_pos th, mX16_thousandths_b173, mX16_thousandths_b178, mX16_thousandths_b181]
  · have e6 := q_holds t4 wt h6 (qK13 L) (qN13 L)
    have e7 : tH (pW (aP A k)) (hAI h (m + 13)) = smH A k r := tH_congr wt h6 (fun j hj => xe j hj)
    rw [e7] at e6
    have ns : ¬ (some t = none) := by intro e; cases e
    rw [t1, if_neg ns, b_gR, if_pos P.1.1, t1, b_gR, if_pos K, qR29 L, b_rcv, if_pos t4.1.1, e6, o_bind]
    by_cases th : smH A k r = true
    · rw [if_pos th, if_neg n10, if_pos th, mX16_thousandths_b173, mX16_thousandths_b178, mX16_thousandths_b181]
    · rw [if_neg th, if_pos rfl, if_neg th, mX16_thousandths_b178, mX16_thousandths_b181, Int32.add_zero]
theorem q_sv {m b r k f u p : Nat} {h : MHp} {A : AS} (lk : Bool) (W : WA A) (Q : RQ m b (aN A 2) h A) (P : RP (m + 26) h p (aP A k)) (hg : hAI h (m + 18) = aA A 11) (hk : k < aN A 1) (hf : f < bF (aB A)) (hu : u ≤ bT (aB A) f) (hr : r < aN A 2) : ∃ h1 : MHp, (∀ (n : Nat) (a s : Int32), mX16_thousandths_l9 (n + 1) h m (some p) (Int32.ofNat f) (Int32.ofNat u) (if lk = true then 1 else 0) a s (Int32.ofNat r) = mX16_thousandths_l9 n h1 m (some p) (Int32.ofNat f) (Int32.ofNat u) (if lk = true then 1 else 0) (if smQ A f u lk r = true then a + 1 else a) (if (smQ A f u lk r && smH A k r) = true then s + 1 else s) (Int32.ofNat (r + 1))) ∧ Rs m h h1 := by
  have h60 := W.2.2.2.1
  have h6 := W.1.1
  have f6 : f < 6 := by omega
  have L := Q.1.1
  have K := qK0 L
  have ur := (W.1.2.2.1 f hf).2.1
  have e2 : ¬ Int32.ofNat (aN A 2) ≤ Int32.ofNat r := by rw [le_of (by omega) (by omega)]; omega
  have e1 := Q.2.2.2.2.1
  have td := Q.2.2.2.2.2.2.1
  have e3 := q_isThere Q.1 h60 hr (aS A 3)
  by_cases g1 : thA A r (aS A 3) = true
  · rw [if_pos g1] at e3
    have e4 : mX16_loads h m (Int32.ofNat r) (aS A 3) 0 (some (m + 13)) = some (sAI h (m + 13) (rD A r (aS A 3) 0 (hAI h (m + 13)))) := q_loads (fil := 0) Q hr (by omega) (aS A 3) (Or.inl rfl)
    have S : Rs m h (sAI h (m + 13) (rD A r (aS A 3) 0 (hAI h (m + 13)))) := Rs.AI 13 _ (by decide)
    have hx : hAI (sAI h (m + 13) (rD A r (aS A 3) 0 (hAI h (m + 13)))) (m + 13) = rD A r (aS A 3) 0 (hAI h (m + 13)) := by rw [e_sAI, if_pos rfl]
    have hg2 : hAI (sAI h (m + 13) (rD A r (aS A 3) 0 (hAI h (m + 13)))) (m + 18) = aA A 11 := by rw [e_sAI, if_neg (by omega)]; exact hg
    have P2 : RP (m + 26) (sAI h (m + 13) (rD A r (aS A 3) 0 (hAI h (m + 13)))) p (aP A k) := P.ag (Ag.AI _ _ (by omega)) (Nat.le_refl _)
    have Q2 := Q.sc S
    revert e4 S hx hg2 P2 Q2
    generalize sAI h (m + 13) (rD A r (aS A 3) 0 (hAI h (m + 13))) = h2
    intro e4 S hx hg2 P2 Q2
    have L2 := Q2.1.1
    have K2 := qK0 L2
    have xe : ∀ f : Nat, f < bF (aB A) → hAI h2 (m + 13) f = vX A r (aS A 3) 0 f := fun j hj => by
      rw [hx]; simp only [rD, vX, if_pos hj]
    have e5 := q_brokenRow Q2 (qK13 L2) (qN13 L2)
    rw [hx, bB_rD W.1] at e5
    have hb := bB_le (aB A) (vX A r (aS A 3) 0)
    have hb2 := W.1.2.1
    have bd := bad_n (k := f) (n := 6) (by omega) (by omega)
    have clf : (Int32.ofNat f).toNatClampNeg = f := cl_of (by omega)
    refine ⟨h2, fun n a s => ?_, S⟩
    rw [mX16_thousandths_l9, b_gI, if_pos K, e1, if_neg e2, b_gI, if_pos K, td, b_rcv, if_pos K, e3, o_bind, if_neg n10, b_gI, if_pos K, td, b_gR, if_pos K, qR29 L, b_rcv, if_pos K, e4, o_bind, b_gR, if_pos K2, qR29 L2, b_gAI, if_pos (qK13 L2), qN13 L2, if_neg bd, clf, xe f hf]
    by_cases gm : vX A r (aS A 3) 0 f = -1
    · have q0 : smQ A f u lk r = false := by simp [smQ, gm]
      rw [if_pos gm, mX16_thousandths_b181, q0, s1_of]; rfl
    · rw [if_neg gm, b_gR, if_pos K2, Q2.2.1, b_gR, if_pos K2, qR29 L2, b_rcv, if_pos Q2.2.2.1.1.1, e5, o_bind]
      by_cases g2 : bB (aB A) (vX A r (aS A 3) 0) = bN (aB A)
      · have g3 : ¬ bB (aB A) (vX A r (aS A 3) 0) < bN (aB A) := by omega
        have g : okA A r (aS A 3) 0 = true := by simp [okA, g1, g2]
        obtain ⟨w, hw, ew⟩ : ∃ w : Nat, w ≤ bT (aB A) f ∧ vX A r (aS A 3) 0 f = Int32.ofNat w := by
          rcases vA_in W hr (show 0 < 5 by omega) (aS A 3) f hf with q | q
          · exact absurd q gm
          · exact q
        have clw : (Int32.ofNat w).toNatClampNeg = w := cl_of (by omega)
        rw [if_neg g3, if_pos rfl, ew]
        have e10 : ∀ x : Nat, (10 : Int32) * Int32.ofNat f + Int32.ofNat x = Int32.ofNat (10 * f + x) := fun x => by
          rw [show (10 : Int32) = Int32.ofNat 10 from rfl, ofNat_mul_add]
        cases lk with
        | false =>
          rw [if_neg Bool.false_ne_true, if_pos (show (0 : Int32) = 0 from rfl)]
          by_cases wu : w = u
          · have wv : Int32.ofNat w = Int32.ofNat u := by rw [wu]
            have q1 : smQ A f u false r = true := by simp [smQ, g, ew, wu, nm_of (show u < 2147483648 by omega)]
            rw [if_pos wv, q_want W hk Q2 P2 xe, q1, Bool.true_and, if_pos (show true = true from rfl), s1_of]
          · have wv : ¬ Int32.ofNat w = Int32.ofNat u := by rw [eq_of (by omega) (by omega)]; exact wu
            have q1 : smQ A f u false r = false := by simp [smQ, ew, wv]
            rw [if_neg wv, mX16_thousandths_b137, if_pos (show (0 : Int32) = 0 from rfl), mX16_thousandths_b181, q1, s1_of]; rfl
        | true =>
          rw [if_pos (show true = true from rfl), if_neg n10]
          by_cases wu : w = u
          · have wv : Int32.ofNat w = Int32.ofNat u := by rw [wu]
            have q1 : smQ A f u true r = false := by simp [smQ, ew, wu]
            rw [if_pos wv, mX16_thousandths_b122, mX16_thousandths_b137, if_pos (show (0 : Int32) = 0 from rfl), mX16_thousandths_b181, q1, s1_of]; rfl
          · have wv : ¬ Int32.ofNat w = Int32.ofNat u := by rw [eq_of (by omega) (by omega)]; exact wu
            have b1 := bad_n (k := 10 * f + w) (n := 60) (by omega) (by omega)
            have b2 := bad_n (k := 10 * f + u) (n := 60) (by omega) (by omega)
            have c1 : (Int32.ofNat (10 * f + w)).toNatClampNeg = 10 * f + w := cl_of (by omega)
            have c2 : (Int32.ofNat (10 * f + u)).toNatClampNeg = 10 * f + u := cl_of (by omega)
            rw [if_neg wv, b_gR, if_pos K2, qR36 L2, e10, b_gAI, if_pos (qK18 L2), qN18 L2, if_neg b1, c1, hg2, b_gR, if_pos K2, qR36 L2, e10, b_gAI, if_pos (qK18 L2), qN18 L2, if_neg b2, c2, hg2]
            by_cases gg : aA A 11 (10 * f + w) = aA A 11 (10 * f + u)
            · have q1 : smQ A f u true r = true := by simp only [smQ, g, ew, clw]; simp [wv, gg, nm_of (show w < 2147483648 by omega)]
              rw [if_pos gg, q_want W hk Q2 P2 xe, q1, Bool.true_and, if_pos (show true = true from rfl), s1_of]
            · have q1 : smQ A f u true r = false := by simp only [smQ, g, ew, clw]; simp [gg]
              rw [if_neg gg, mX16_thousandths_b122, mX16_thousandths_b137, if_pos (show (0 : Int32) = 0 from rfl), mX16_thousandths_b181, q1, s1_of]; rfl
      · have g3 : bB (aB A) (vX A r (aS A 3) 0) < bN (aB A) := by omega
        have q0 : smQ A f u lk r = false := by simp [smQ, okA, g2]
        rw [if_pos g3, if_neg (nm_of (by omega)), mX16_thousandths_b181, q0, s1_of]; rfl
  · rw [if_neg g1] at e3
    have q0 : smQ A f u lk r = false := by simp [smQ, okA, g1]
    refine ⟨h, fun n a s => ?_, Rs.rf⟩
    rw [mX16_thousandths_l9, b_gI, if_pos K, e1, if_neg e2, b_gI, if_pos K, td, b_rcv, if_pos K, e3, o_bind, if_pos rfl, mX16_thousandths_b181, q0, s1_of]; rfl
theorem q_svl {m b k f u p : Nat} {A : AS} (lk : Bool) (W : WA A) (hk : k < aN A 1) (hf : f < bF (aB A)) (hu : u ≤ bT (aB A) f) : ∀ (q fu r : Nat) (h : MHp) (a s : Int32), RQ m b (aN A 2) h A → RP (m + 26) h p (aP A k) → hAI h (m + 18) = aA A 11 → r + q = aN A 2 → q < fu → ∃ h' : MHp, mX16_thousandths_l9 fu h m (some p) (Int32.ofNat f) (Int32.ofNat u) (if lk = true then 1 else 0) a s (Int32.ofNat r) = some (if cntF (smQ A f u lk) q r a = 0 then 0 else (1000 * cntF (fun r => smQ A f u lk r && smH A k r) q r s) / cntF (smQ A f u lk) q r a, h') ∧ Rs m h h' ∧ hI h' m 41 = cntF (smQ A f u lk) q r a := by
  intro q
  have h60 := W.2.2.2.1
  induction q with
  | zero =>
    intro fu r h a s Q P hg hr hf2
    obtain ⟨fu, rfl⟩ : ∃ g : Nat, fu = g + 1 := ⟨fu - 1, by omega⟩
    have K := qK0 Q.1.1
    have e1 := Q.2.2.2.2.1
    have e2 : Int32.ofNat (aN A 2) ≤ Int32.ofNat r := by rw [le_of (by omega) (by omega)]; omega
    refine ⟨sI h m 41 a, ?_, Rs.I 41 a (by decide), by rw [e_sI, if_pos ⟨rfl, rfl⟩]; rfl⟩
    rw [mX16_thousandths_l9, b_gI, if_pos K, e1, if_pos e2, b_pI, if_pos K]
    show (if a = 0 then _ else _) = some (if a = 0 then 0 else (1000 * s) / a, _)
    by_cases z : a = 0
    · rw [if_pos z, if_pos z]
    · rw [if_neg z, if_neg z, nz, if_neg z, o_bind]
  | succ q ih =>
    intro fu r h a s Q P hg hr hf2
    obtain ⟨fu, rfl⟩ : ∃ g : Nat, fu = g + 1 := ⟨fu - 1, by omega⟩
    obtain ⟨h1, e1, S1⟩ := q_sv lk W Q P hg hk hf hu (show r < aN A 2 by omega)
    have hg1 : hAI h1 (m + 18) = aA A 11 := by
      rw [(S1.2.2.2.2.2.2 (m + 18) (fun k hk e => by
        have : k = 18 := by omega
        subst this
        exact absurd hk (by decide))).2.1]
      exact hg
    obtain ⟨h2, e2, S2, i2⟩ := ih fu (r + 1) h1 (if smQ A f u lk r = true then a + 1 else a) (if (smQ A f u lk r && smH A k r) = true then s + 1 else s) (Q.sc S1) (P.ag (S1.out (Or.inr (by omega))) (by rw [S1.2.2.2.2.1]; exact Nat.le_refl _)) hg1 (by omega) (by omega)
    refine ⟨h2, ?_, S1.tr S2, ?_⟩
    · rw [e1, e2, cntF_s, cntF_s]
    · rw [i2, cntF_s]
theorem q_thou {m b k f u p : Nat} {h : MHp} {A : AS} (lk : Bool) (W : WA A) (hk : k < aN A 1) (hf : f < bF (aB A)) (hu : u ≤ bT (aB A) f) (Q : RQ m b (aN A 2) h A) (P : RP (m + 26) h p (aP A k)) (hg : hAI h (m + 18) = aA A 11) : ∃ h' : MHp, mX16_thousandths h m (some p) (Int32.ofNat f) (Int32.ofNat u) (if lk = true then 1 else 0) = some (if smN A f u lk = 0 then 0 else (1000 * smS A k f u lk) / smN A f u lk, h') ∧ Rs m h h' ∧ hI h' m 41 = smN A f u lk := by
  have h60 := W.2.2.2.1
  exact q_svl lk W hk hf hu (aN A 2) FUEL 0 h 0 0 Q P hg (by omega) (by unfold FUEL; omega)

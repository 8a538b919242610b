/-! reading a whole test, both sides -/
def tsR (g : Nat → Int32) (n : Nat) (B : Bk) : Nat → Ts → Tok → Int32 × Tok × Ts
  | 0, T, t => (0, t, T)
  | q + 1, T, t => if oF g n B T t = 0 then (if isW (nxt g n (oT g n B T t)) 2 = true then tsR g n B q (oN g n B T t) (nxt g n (nxt g n (oT g n B T t))) else (0, nxt g n (oT g n B T t), oN g n B T t)) else (oF g n B T t, oT g n B T t, T)
theorem tsR_s (g : Nat → Int32) (n : Nat) (B : Bk) (q : Nat) (T : Ts) (t : Tok) : tsR g n B (q + 1) T t = if oF g n B T t = 0 then (if isW (nxt g n (oT g n B T t)) 2 = true then tsR g n B q (oN g n B T t) (nxt g n (nxt g n (oT g n B T t))) else (0, nxt g n (oT g n B T t), oN g n B T t)) else (oF g n B T t, oT g n B T t, T) := (rfl)
theorem CFl.tr {c u : Nat} {h h1 : MHp} {F : Option (Int32 × MHp)} {f : Int32} {t : Tok} (Fx : FT c u h h1) (C : CFl c u h1 F f t) : CFl c u h F f t := by
  obtain ⟨h2, e, F2, a, b⟩ := C
  exact ⟨h2, e, Fx.tr F2, a, b⟩
theorem RFl.tr {α : Type} {m u : Nat} {h h1 : MHp} {F : Option ((α ⊕ Nat) × MHp)} {f : Int32} {t : Tok} (Fx : FQ m u h h1) (C : RFl m u h1 F f t) : RFl m u h F f t := by
  obtain ⟨h2, e, F2, a, b⟩ := C
  exact ⟨h2, e, Fx.tr F2, a, b⟩
/-- a ONE that was read -/
theorem oN_ok {g : Nat → Int32} {n : Nat} {B : Bk} {T : Ts} {t : Tok} (W : NW B) (WT0 : WT (bF B) T) (G2 : GT g n (nxt g n (nxt g n t))) (h : oF g n B T t = 0) : WT (bF B) (oN g n B T t) ∧ tn (oN g n B T t) = tn T + 1 ∧ tn T < 12 := by
  unfold oF at h
  by_cases a1 : kf B t = 0
  · rw [if_pos a1] at h
    by_cases a2 : tn T < 12
    · rw [if_pos a2] at h
      by_cases a3 : sg3 (nxt g n t) = true
      · rw [if_pos a3] at h
        exact ⟨WT0.add a2 (kf_0 a1).2 (thR_ok G2 h) W.1, rfl, a2⟩
      · rw [if_neg a3] at h; exact absurd h n10
    · rw [if_neg a2] at h; exact absurd h n50
  · rw [if_neg a1] at h; exact absurd h a1
theorem tokAt_E {g : Nat → Int32} {n p : Nat} (hp : p ≤ n) : kE (tokAt g n p) ≤ n := by
  unfold tokAt
  obtain ⟨s, hs⟩ : ∃ s : Nat, s = run pSp g n p := ⟨_, rfl⟩
  have sb := run_b (P := pSp) (g := g) hp
  rw [← hs] at sb ⊢
  have lb := run_b (P := pLe) (g := g) (show s ≤ n by omega)
  have db := run_b (P := pDi) (g := g) (show s ≤ n by omega)
  unfold tkOf
  by_cases L0 : s < run pLe g n s
  · rw [if_pos L0]
    by_cases L8 : run pLe g n s - s ≤ 8
    · rw [if_pos L8]; exact lb.2
    · rw [if_neg L8]; exact sb.2
  · rw [if_neg L0]
    by_cases D0 : s < run pDi g n s
    · rw [if_pos D0]
      by_cases D4 : run pDi g n s - s ≤ 4
      · rw [if_pos D4]; exact db.2
      · rw [if_neg D4]; exact sb.2
    · rw [if_neg D0]
      by_cases z : s < n
      · rw [if_pos z]
        by_cases q : pSg (g s) = true
        · rw [if_pos q]; show s + 1 ≤ n; omega
        · rw [if_neg q]; exact sb.2
      · rw [if_neg z]; exact sb.2
theorem GT.nx {g : Nat → Int32} {n : Nat} {t : Tok} (G : GT g n t) : GT g n (nxt g n t) := by
  obtain ⟨p, hp, rfl⟩ := G
  exact ⟨kE (tokAt g n p), tokAt_E hp, rfl⟩
theorem p_tests {c bo u n : Nat} {g : Nat → Int32} {B : Bk} (D : Du c bo u) (W : NW B) : ∀ (q : Nat) (T : Ts) (t : Tok) (h : MHp) (fu : Nat), tn T + q = 13 → 1 ≤ q → q < fu → WT (bF B) T → GT g n t → Kt c bo u g n B T t h → ((tsR g n B q T t).1 ≠ 0 ∧ CFl c u h (mX8_readTest_l2 fu h (c + 55) (some u) (Int32.ofNat (tn T))) (tsR g n B q T t).1 (tsR g n B q T t).2.1) ∨ (tsR g n B q T t).1 = 0 ∧ GT g n (tsR g n B q T t).2.1 ∧ WT (bF B) (tsR g n B q T t).2.2 ∧ ∃ h' : MHp, mX8_readTest_l2 fu h (c + 55) (some u) (Int32.ofNat (tn T)) = some (1, h') ∧ FT c u h h' ∧ hI h' (c + 55) 1 = hI h (c + 55) 1 ∧ Kt c bo u g n B (tsR g n B q T t).2.2 (tsR g n B q T t).2.1 h' := by
  intro q
  induction q with
  | zero => intro T t h fu _ h1; omega
  | succ q ih =>
    intro T t h fu hq h1 hfu WT0 G K
    obtain ⟨fu, rfl⟩ : ∃ g : Nat, fu = g + 1 := ⟨fu - 1, by omega⟩
    have w12 := WT0.1
    have n12 : ¬ (12 : Int32) < Int32.ofNat (tn T) := by rw [show (12 : Int32) = Int32.ofNat 12 from rfl, lt_of' (by omega) (by omega)]; omega
    have K55 := lK55 K.1.1.1
    rw [tsR_s]
    rcases p_readOne D W WT0 G K with ⟨ne, h2, e2, F2, f2, w2⟩ | ⟨e0, h2, e2, F2, s2, K2, G2⟩
    · rw [if_neg ne]
      left
      refine ⟨ne, h2, ?_, F2, f2, w2⟩
      rw [mX8_readTest_l2, if_neg n12, b_rcv, if_pos K55, e2, o_bind, if_pos rfl]
    · rw [if_pos e0]
      obtain ⟨o1, o2, o3⟩ := oN_ok W WT0 G.nx.nx e0
      have P2 := K2.1
      have K552 := lK55 P2.1.1
      have iw := p_isWord P2 G2 (show 2 < 9 by omega) cw2
      by_cases w : isW (nxt g n (oT g n B T t)) 2 = true
      · rw [if_pos w] at iw
        rw [if_pos w]
        have k1 : kK (nxt g n (oT g n B T t)) = 1 := by
          unfold isW at w
          rw [Bool.and_eq_true, decide_eq_true_eq] at w
          exact w.1
        obtain ⟨h3, e3, S3, P3, G3⟩ := P2.st (by omega)
        have K3 := K2.sp D S3 P3
        have base : mX8_readTest_l2 (fu + 1) h (c + 55) (some u) (Int32.ofNat (tn T)) = mX8_readTest_l2 fu h3 (c + 55) (some u) (Int32.ofNat (tn (oN g n B T t))) := by
          rw [mX8_readTest_l2, if_neg n12, b_rcv, if_pos K55, e2, o_bind, if_neg n10, b_rcv, if_pos K552, iw, o_bind, if_neg n10, b_rcv, if_pos K552, e3, o_bind, s1_of, o2]
        rw [base]
        rcases ih (oN g n B T t) _ h3 fu (by omega) (by omega) (by omega) o1 G3 K3 with ⟨a1, a2⟩ | ⟨a1, a2, a3, h4, e4, F4x, s4, K4⟩
        · exact Or.inl ⟨a1, a2.tr (F2.tr S3.ft)⟩
        · exact Or.inr ⟨a1, a2, a3, h4, e4, (F2.tr S3.ft).tr F4x, by rw [s4, S3.2.2.2.2.2.2.2.2.2, s2], K4⟩
      · rw [if_neg w] at iw
        rw [if_neg w]
        right
        refine ⟨rfl, G2, o1, h2, ?_, F2, s2, K2⟩
        rw [mX8_readTest_l2, if_neg n12, b_rcv, if_pos K55, e2, o_bind, if_neg n10, b_rcv, if_pos K552, iw, o_bind, if_pos rfl]
theorem q_tests {m b u n : Nat} {g : Nat → Int32} {B : Bk} (hb : ∀ k : Nat, (g k).toInt8.toInt32 = g k) (d : m + 26 ≤ b) (d2 : b + 5 ≤ u) (W : NW B) : ∀ (q : Nat) (T : Ts) (t : Tok) (h : MHp) (fu : Nat), tn T + q = 13 → 1 ≤ q → q + 1 < fu → WT (bF B) T → GT g n t → Qt m b u g n B T t h → ((tsR g n B q T t).1 ≠ 0 → RFl m u h (mX16_readTest_l10 fu h m (some b) (some u) 1) (tsR g n B q T t).1 (tsR g n B q T t).2.1) ∧ ((tsR g n B q T t).1 = 0 → ∃ h' : MHp, mX16_readTest_l10 fu h m (some b) (some u) 1 = some (Sum.inl (some u), h') ∧ FQ m u h h' ∧ Qt m b u g n B (tsR g n B q T t).2.2 (tsR g n B q T t).2.1 h') := by
  intro q
  induction q with
  | zero => intro T t h fu _ h1; omega
  | succ q ih =>
    intro T t h fu hq h1 hfu WT0 G Q
    obtain ⟨fu, rfl⟩ : ∃ g : Nat, fu = g + 2 := ⟨fu - 2, by omega⟩
    rw [tsR_s]
    obtain ⟨r1, r2⟩ := q_readOne hb d d2 W WT0 G Q (fu + 1)
    by_cases e0 : oF g n B T t = 0
    · rw [if_pos e0]
      obtain ⟨o1, o2, o3⟩ := oN_ok W WT0 G.nx.nx e0
      obtain ⟨h2, F2, e2, Q2, G2⟩ := r2 e0
      by_cases w : isW (nxt g n (oT g n B T t)) 2 = true
      · rw [if_pos w] at e2 Q2 G2
        rw [if_pos w, e2]
        obtain ⟨a1, a2⟩ := ih (oN g n B T t) _ h2 (fu + 1) (by omega) (by omega) (by omega) o1 G2 Q2
        refine ⟨fun hh => (a1 hh).tr F2, fun hh => ?_⟩
        obtain ⟨h3, e3, F3, Q3⟩ := a2 hh
        exact ⟨h3, e3, F2.tr F3, Q3⟩
      · rw [if_neg w] at e2 Q2 G2
        rw [if_neg w, e2]
        refine ⟨fun hh => absurd rfl hh, fun _ => ⟨h2, ?_, F2, Q2⟩⟩
        rw [mX16_readTest_l10, if_pos rfl]
    · rw [if_neg e0]
      exact ⟨fun _ => r1 e0, fun hh => absurd hh e0⟩

/-! agreed: the reference's fraction, the pairing -/
theorem q_agv {m b k f p : Nat} {i j dn : Int32} {A : AS} {a o kk : Nat → Nat} (W : WA A) (hk : k < aN A 1) (hf : f < bF (aB A)) (e5 : aS A 5 = Int32.ofNat f) (ht : bT (aB A) f ≤ 2) (N : ∀ u : Nat, u < 3 → sumF (agQ A f u) (agW A) (aN A 2) 0 0 = Int64.ofNat (a u) ∧ a u ≤ 5940 ∧ sumF (agP A (aP A k) i j f u) (fun r => wtA A (aP A k) r (aS A 3) 0) (aN A 2) 0 0 = Int64.ofNat (o u) ∧ o u ≤ 53460 ∧ aA A 10 u = Int32.ofNat (kk u) ∧ kk u ≤ 1000000) : ∀ (q fu v : Nat) (h : MHp) (x : Nat × Nat), RR m h A → RQ m b (aN A 2) h A → RP (m + 26) h p (aP A k) → v + q = bT (aB A) f + 1 → q < fu → Bd v x → ∃ h' : MHp, mX16_agreed_l52 fu h m i j dn (some p) (Int64.ofNat x.1) (Int64.ofNat x.2) (Int32.ofNat v) = some (if dn = 0 then Int64.ofNat (lwN (fpI a o kk q v x).1 (fpI a o kk q v x).2) else Int64.ofNat (lwD (fpI a o kk q v x).1 (fpI a o kk q v x).2), rtb m h' 0) ∧ Rs m h h' := by
  intro q
  have h6 := W.1.1
  have h60 := W.2.2.2.1
  induction q with
  | zero =>
    intro fu v h x R Q P hv hfu B
    obtain ⟨fu, rfl⟩ : ∃ g : Nat, fu = g + 1 := ⟨fu - 1, by omega⟩
    have L := Q.1.1
    have K := qK0 L
    have x34 : hI h m 34 = Int32.ofNat f := by rw [← e5]; exact R.2.1.2.2.2.2.2.2.2.2.2.1
    have t1 := q_top Q hf
    obtain ⟨⟨k1, k2, k3, k4, k5, k6, k7, k8, k9, k10, k11, k12, k13⟩, -⟩ := Q.2.2.1
    have bf := bad_n (k := f) (n := 6) (by omega) (by omega)
    have clf : (Int32.ofNat f).toNatClampNeg = f := cl_of (by omega)
    have c1 : Int32.ofNat (bT (aB A) f) < Int32.ofNat v := by rw [lt_of (by omega) (by omega)]; omega
    have b1 := nB_3 (v := v) (by omega)
    have X1 : x.1 < 2 ^ 63 := Nat.lt_of_le_of_lt B.1 b1.1
    have X2 : x.2 < 2 ^ 63 := Nat.lt_of_le_of_lt B.2.1 b1.2
    have e1 := r_gcd (h := h) X1 X2
    have G1 : 0 < Nat.gcd x.1 x.2 := Nat.gcd_pos_of_pos_right _ B.2.2
    have G2 : Nat.gcd x.1 x.2 ≤ x.2 := Nat.le_of_dvd B.2.2 (Nat.gcd_dvd_right _ _)
    have z3 := l_nz (a := Nat.gcd x.1 x.2) (by omega) (by omega)
    have d1 := l_div (a := x.1) (b := Nat.gcd x.1 x.2) X1 (by omega)
    have d2 := l_div (a := x.2) (b := Nat.gcd x.1 x.2) X2 (by omega)
    refine ⟨h, ?_, Rs.rf⟩
    rw [mX16_agreed_l52, b_gR, if_pos K, Q.2.1, b_gR, if_pos k1, k3, b_gI, if_pos K, x34, b_gAI, if_pos k7, k11, if_neg bf, clf, t1, if_pos c1, e1, o_bind, fpI_0]
    by_cases z : dn = 0
    · rw [if_pos z, if_pos z, z3, o_bind, d1, mX16_agreed_b306, b_rcv, if_pos K, q_told L, o_bind]; rfl
    · rw [if_neg z, if_neg z, z3, o_bind, d2, mX16_agreed_b306, b_rcv, if_pos K, q_told L, o_bind]; rfl
  | succ q ih =>
    intro fu v h x R Q P hv hfu B
    obtain ⟨fu, rfl⟩ : ∃ g : Nat, fu = g + 1 := ⟨fu - 1, by omega⟩
    have L := Q.1.1
    have K := qK0 L
    have x34 : hI h m 34 = Int32.ofNat f := by rw [← e5]; exact R.2.1.2.2.2.2.2.2.2.2.2.1
    have t1 := q_top Q hf
    obtain ⟨⟨k1, k2, k3, k4, k5, k6, k7, k8, k9, k10, k11, k12, k13⟩, -⟩ := Q.2.2.1
    have bf := bad_n (k := f) (n := 6) (by omega) (by omega)
    have clf : (Int32.ofNat f).toNatClampNeg = f := cl_of (by omega)
    have c1 : ¬ Int32.ofNat (bT (aB A) f) < Int32.ofNat v := by rw [lt_of (by omega) (by omega)]; omega
    obtain ⟨N1, N2, N3, N4, N5, N6⟩ := N v (by omega)
    obtain ⟨h1, e1, S1⟩ := q_agl (i := i) (j := j) (v := v) W hk hf e5 (by omega) (aN A 2) FUEL 0 h 0 0 R Q P (by omega) (by unfold FUEL; omega)
    rw [N1, N3, N5, l_i (by omega), l_mul] at e1
    have e0 : (Int64.ofNat (a v) = 0) = (a v = 0) := by rw [show (0 : Int64) = Int64.ofNat 0 from rfl, l_eq (by omega) (by omega)]
    have e0a : a v = 0 → Int64.ofNat (a v) = 0 := fun hz => by rw [hz]; rfl
    have e0b : ¬ a v = 0 → ¬ Int64.ofNat (a v) = 0 := fun hz => by rw [e0]; exact hz
    have B1 := B.st N2 N4 N6
    obtain ⟨h2, e2, S2⟩ := ih fu (v + 1) h1 (fpN (a v) (o v) (kk v) x) (R.sc S1) (Q.sc S1) (P.ag (S1.out (Or.inr (by omega))) (by rw [S1.2.2.2.2.1]; omega)) (by omega) (by omega) B1
    refine ⟨h2, ?_, S1.tr S2⟩
    rw [mX16_agreed_l52, b_gR, if_pos K, Q.2.1, b_gR, if_pos k1, k3, b_gI, if_pos K, x34, b_gAI, if_pos k7, k11, if_neg bf, clf, t1, if_neg c1, show (0 : Int32) = Int32.ofNat 0 from rfl, e1, fpI_s, ← show (0 : Int32) = Int32.ofNat 0 from rfl, ← e2]
    unfold fpN
    by_cases z : a v = 0
    · rw [if_pos (e0a z), if_pos (e0a z), if_pos z]
    · rw [if_neg (e0b z), if_neg (e0b z), if_neg z, l_mul, l_mul, l_add, l_mul]
theorem sumF_none {ok : Nat → Bool} {w : Nat → Int64} : ∀ (q k : Nat) (a : Int64), (∀ r : Nat, k ≤ r → r < k + q → ok r = false) → sumF ok w q k a = a := by
  intro q
  induction q with
  | zero => intro k a _; exact sumF_0 _ _ _ _
  | succ q ih =>
    intro k a h
    rw [sumF_s, if_neg (by rw [h k (by omega) (by omega)]; decide), ih (k + 1) a (fun r h1 h2 => h r (by omega) (by omega))]
theorem num_of {x : Int32} {M : Nat} (h0 : 0 ≤ x) (h1 : x ≤ Int32.ofNat M) (hM : M < 2147483648) : ∃ n : Nat, n ≤ M ∧ x = Int32.ofNat n := by
  have hn : ¬ x < 0 := Int32.not_lt.mpr h0
  obtain ⟨n, rfl, hn2⟩ := ex_of hn
  rw [le_of hn2 hM] at h1
  exact ⟨n, h1, rfl⟩
theorem ag_nums {k f : Nat} {i j : Int32} {A : AS} (W : WA A) (hk : k < aN A 1) (hf : f < bF (aB A)) (ht : bT (aB A) f ≤ 2) (hs : ∀ v : Nat, v < 3 → 0 ≤ aA A 10 v ∧ aA A 10 v ≤ 1000000) : ∃ a o kk : Nat → Nat, (∀ u : Nat, u < 3 → sumF (agQ A f u) (agW A) (aN A 2) 0 0 = Int64.ofNat (a u) ∧ a u ≤ 5940 ∧ sumF (agP A (aP A k) i j f u) (fun r => wtA A (aP A k) r (aS A 3) 0) (aN A 2) 0 0 = Int64.ofNat (o u) ∧ o u ≤ 53460 ∧ aA A 10 u = Int32.ofNat (kk u) ∧ kk u ≤ 1000000) ∧ ∀ u : Nat, u < 3 → bT (aB A) f < u → a u = 0 := by
  have h60 := W.2.2.2.1
  have WPk := W.2.2.2.2.2.1 k hk
  have wr : ∀ r : Nat, r < aN A 2 → ∃ x : Nat, x ≤ 99 ∧ aA A 5 r = Int32.ofNat x := fun r hr => by
    obtain ⟨-, -, -, -, -, -, -, -, u9, u10, -⟩ := W.2.2.2.2.2.2.2.2.2.1 r hr
    exact num_of (Int32.le_trans (by decide) u9) u10 (by omega)
  have H : ∀ u : Nat, ∃ y : Nat × Nat × Nat, u < 3 → (sumF (agQ A f u) (agW A) (aN A 2) 0 0 = Int64.ofNat y.1 ∧ y.1 ≤ 5940 ∧ sumF (agP A (aP A k) i j f u) (fun r => wtA A (aP A k) r (aS A 3) 0) (aN A 2) 0 0 = Int64.ofNat y.2.1 ∧ y.2.1 ≤ 53460 ∧ aA A 10 u = Int32.ofNat y.2.2 ∧ y.2.2 ≤ 1000000) ∧ (bT (aB A) f < u → y.1 = 0) := fun u => by
    by_cases hu : u < 3
    · obtain ⟨s, s1, -, s3⟩ := sumF_n (ok := agQ A f u) (w := agW A) 99 (aN A 2) 0 0 (fun r _ hr _ => by
        obtain ⟨x, x1, x2⟩ := wr r (by omega)
        exact ⟨x, x1, by unfold agW; rw [x2, l_i (by omega)]⟩)
      obtain ⟨o, o1, -, o3⟩ := sumF_n (ok := agP A (aP A k) i j f u) (w := fun r => wtA A (aP A k) r (aS A 3) 0) 891 (aN A 2) 0 0 (fun r _ hr ok => by
        obtain ⟨x, x1, x2⟩ := wr r (by omega)
        unfold agP at ok
        rw [Bool.and_eq_true] at ok
        have tm : ∃ y : Nat, y ≤ 9 ∧ tmA (aP A k) (vX A r (aS A 3) 0) = Int32.ofNat y := by
          unfold tmA
          cases e : pS (aP A k) with
          | none => exact ⟨1, by omega, rfl⟩
          | some g =>
            have hg := WPk.1 g e
            have y2 := ok.2
            unfold inP at y2
            rw [Bool.and_eq_true, Bool.and_eq_true, Bool.and_eq_true, e, oq_s, decide_eq_true_eq] at y2
            have wt := W.1.2.2.1 g hg
            rcases vA_in W (show r < aN A 2 by omega) (show 0 < 5 by omega) (aS A 3) g hg with q | ⟨w, hw, ew⟩
            · exact absurd q y2.2.2.2
            · exact ⟨w, by omega, ew⟩
        obtain ⟨y, y1, y2⟩ := tm
        refine ⟨x * y, Nat.mul_le_mul x1 y1, ?_⟩
        show wtA A (aP A k) r (aS A 3) 0 = _
        unfold wtA
        rw [x2, y2, l_i (by omega), l_i (by omega), l_mul])
      obtain ⟨kk, k1, k2⟩ := num_of (M := 1000000) (hs u hu).1 (hs u hu).2 (by omega)
      have m1 : aN A 2 * 99 ≤ 60 * 99 := Nat.mul_le_mul_right 99 h60
      have m2 : aN A 2 * 891 ≤ 60 * 891 := Nat.mul_le_mul_right 891 h60
      refine ⟨(s, o, kk), fun _ => ⟨⟨s3, by show s ≤ 5940; omega, o3, by show o ≤ 53460; omega, k2, k1⟩, fun hb => ?_⟩⟩
      have z : sumF (agQ A f u) (agW A) (aN A 2) 0 0 = 0 := sumF_none _ _ _ (fun r _ hr => by
        have : ¬ vX A r (aS A 3) 0 f = Int32.ofNat u := by
          rcases vA_in W (show r < aN A 2 by omega) (show 0 < 5 by omega) (aS A 3) f hf with q | ⟨w, hw, ew⟩
          · rw [q]; exact fun e => nm_of (by omega) e.symm
          · rw [ew, eq_of (by omega) (by omega)]; omega
        simp [agQ, this])
      have s3' : sumF (agQ A f u) (agW A) (aN A 2) 0 0 = Int64.ofNat s := s3
      rw [s3', show (0 : Int64) = Int64.ofNat 0 from rfl, l_eq (by omega) (by omega)] at z
      exact z
    · exact ⟨(0, 0, 0), fun h => absurd h hu⟩
  obtain ⟨g, hg⟩ := Classical.axiomOfChoice H
  exact ⟨fun u => (g u).1, fun u => (g u).2.1, fun u => (g u).2.2, fun u hu => (hg u hu).1, fun u hu => (hg u hu).2⟩
theorem agr_b {c : Nat} {h : MHp} (L : CL c h) (t i j d : Int32) (v : Int32) (hv : ¬ v = 0) : mX11_agreed_b31 h c t i j d (some c) v = some (-9223372036854775808, sI h c 15 v) := by
  have K : hK (sI h c 15 v) c = 12 := lK0 L
  rw [mX11_agreed_b31, b_pI, if_pos (lK0 L), b_gI, if_pos K, e_Iself, if_neg hv]
theorem x_agreed {c m : Nat} {h : MHp} {A : AS} (C : CR c h A) (W : WA A) (t i j dn : Int32) : XS c m h A (mX11_agreed h c t i j dn) (fun h1 => mX16_agreed h1 m t i j dn) := by
  have L := C.l
  have h8 := W.2.2.1
  have x5 : hI h (c + 194) 1 = aS A 5 := C.2.1.2.2.2.2.2.2.2.2
  by_cases hc : isC A t i j
  · obtain ⟨k, u, v, hk, hu, hv, rfl, rfl, rfl⟩ := hc
    have e1 := p_hasCell1 C W hk hu hv
    obtain ⟨-, -, -, -, -, -, -, -, -, -, w11, -⟩ := id W
    by_cases g5 : aS A 5 = -1
    · refine XS.no (v := -9223372036854775808) 5 (by decide) C W (fun _ _ => Or.inr trivial) ?_ (fun h1 R => ⟨sI h1 m 0 0, Rs.I 0 0 (by decide), ?_⟩)
      · rw [mX11_agreed, b_rcv, if_pos (lK0 L), e1, o_bind, if_neg n10, b_gR, if_pos (lK0 L), lR0_8 L, b_gI, if_pos (lK194 L), x5, if_pos g5, agr_b L _ _ _ _ 5 n50]
      · have R2 := R.th 0
        have M := R2.1.1
        have f1 := q_isCell1 R2 W hk hu hv
        have x34 : hI (sI h1 m 0 0) m 34 = -1 := by rw [← g5]; exact R2.2.1.2.2.2.2.2.2.2.2.2.1
        show mX16_agreed h1 m (Int32.ofNat k) (Int32.ofNat u) (Int32.ofNat v) dn = _
        rw [mX16_agreed, b_pI, if_pos (qK0 R.1.1), b_rcv, if_pos (qK0 M), f1, o_bind, if_neg n10, b_gI, if_pos (qK0 M), x34, if_pos (show (-1 : Int32) = -1 from rfl), b_rcv, if_pos (qK0 M), q_lost M 5, o_bind]
    · obtain ⟨f, hf, e5, ht, hs⟩ := w11.resolve_left g5
      obtain ⟨a, o, kk, N, Z⟩ := ag_nums (i := Int32.ofNat u) (j := Int32.ofNat v) W hk hf ht hs
      have wt := W.1.2.2.1 f hf
      have fin : fpI a o kk (bT (aB A) f + 1) 0 (0, 1) = fpI a o kk 3 0 (0, 1) := by
        have : bT (aB A) f = 1 ∨ bT (aB A) f = 2 := by omega
        rcases this with e | e
        · rw [e, fpI_s, fpI_s, fpI_0, fpI_s, fpI_s, fpI_s, fpI_0]
          have z2 := Z 2 (by omega) (by omega)
          show _ = fpN (a 2) (o 2) (kk 2) _
          rw [z2]; rfl
        · rw [e]
      have bd := bad_n (k := k) (n := 9) (by omega) (by omega)
      have clk : (Int32.ofNat k).toNatClampNeg = k := cl_of (by omega)
      have C2 : CR c (sI h c 15 0) (tb A 0) := C.tb (by decide)
      have W2 : WA (tb A 0) := W.tb
      have L2 := C2.l
      have K2 := lK0 L2
      have e2 := p_hasTable1 C2 W2 hk
      obtain ⟨p1, p2, p3, -, -⟩ := C2.plan W2 hk
      have e3 := p_cellAt (u := u) (v := v) p1 p3
      obtain ⟨h3, e4, S4, y1, y2⟩ := p_reckon (a := a) (o := o) (kk := kk) C2 W2 hk hf e5 ht hu hv N
      have L3 := S4.CL L2
      refine ⟨if dn = 0 then Int64.ofNat (lwN (fpI a o kk 3 0 (0, 1)).1 (fpI a o kk 3 0 (0, 1)).2) else Int64.ofNat (lwD (fpI a o kk 3 0 (0, 1)).1 (fpI a o kk 3 0 (0, 1)).2), tb A 0, W2, ⟨h3, ?_, C2.sc W2 S4, (Oc.I0 15 0).tr S4.oc⟩, fun h1 R => ?_⟩
      · rw [mX11_agreed, b_rcv, if_pos (lK0 L), e1, o_bind, if_neg n10, b_gR, if_pos (lK0 L), lR0_8 L, b_gI, if_pos (lK194 L), x5, if_neg g5, mX11_agreed_b31, b_pI, if_pos (lK0 L), b_gI, if_pos K2, e_Iself, if_pos (show (0 : Int32) = 0 from rfl), b_rcv, if_pos K2, e2, o_bind, if_neg n10, b_gR, if_pos K2, lR0_8 L2, b_gR, if_pos K2, lR0_3 L2, b_gAR, if_pos (lK119 L2), lN119 L2, if_neg bd, clk, p2, b_gR, if_pos K2, lR0_3 L2, b_gAR, if_pos (lK119 L2), lN119 L2, if_neg bd, clk, p2, b_rcv, if_pos p1.1, e3, o_bind, b_rcv, if_pos (lK194 L2)]
        have e4' : mX0_reckon (sI h c 15 0) (c + 194) (some (c + 120 + 7 * k)) (Int32.ofNat (u * vs (aB (tb A 0)) (pI2 (aP (tb A 0) k)) + v)) = some h3 := e4
        rw [e4', o_bind]
        by_cases z : dn = 0
        · rw [if_pos z, if_pos z, b_gR, if_pos (lK0 L3), lR0_8 L3, b_gL, if_pos (lK194 L3), y1]
        · rw [if_neg z, if_neg z, b_gR, if_pos (lK0 L3), lR0_8 L3, b_gL, if_pos (lK194 L3), y2]
      · have R2 := R.th 0
        have M := R2.1.1
        have f1 := q_isCell1 R2 W hk hu hv
        have x34 : ¬ hI (sI h1 m 0 0) m 34 = -1 := by rw [R2.2.1.2.2.2.2.2.2.2.2.2.1]; exact g5
        obtain ⟨b, Q⟩ := R2.rq W (by omega)
        obtain ⟨p, q1, q2, -, -⟩ := R2.2.2.2.2.2 k hk
        have bk := bad_n (k := k) (n := 8) (by omega) (by omega)
        obtain ⟨h4, f4, S5⟩ := q_agv (dn := dn) W hk hf e5 ht N (bT (aB A) f + 1) FUEL 0 (sI h1 m 0 0) (0, 1) R2 Q q2 (by omega) (by unfold FUEL; omega) ⟨Nat.le_refl _, Nat.le_refl _, Nat.one_pos⟩
        rw [fin] at f4
        have f4' : mX16_agreed_l52 FUEL (sI h1 m 0 0) m (Int32.ofNat u) (Int32.ofNat v) dn (some p) 0 1 0 = _ := f4
        refine ⟨rtb m h4 0, ?_, ((R2.sc S5).tb (by decide)), ((Om.th 0).tr S5.om).tr Om.tb⟩
        show mX16_agreed h1 m (Int32.ofNat k) (Int32.ofNat u) (Int32.ofNat v) dn = _
        rw [mX16_agreed, b_pI, if_pos (qK0 R.1.1), b_rcv, if_pos (qK0 M), f1, o_bind, if_neg n10, b_gI, if_pos (qK0 M), if_neg x34, b_gR, if_pos (qK0 M), qR6 M, b_gAR, if_pos (qK1 M), qN1 M, if_neg bk, clk, q1, f4']
  · have e1 := p_hasCell0 C W hc
    refine XS.no (v := -9223372036854775808) 1 (by decide) C W (fun _ _ => Or.inr trivial) ?_ (fun h1 R => ⟨sI h1 m 0 0, Rs.I 0 0 (by decide), ?_⟩)
    · rw [mX11_agreed, b_rcv, if_pos (lK0 L), e1, o_bind, if_pos rfl, agr_b L _ _ _ _ 1 n10]
    · have R2 := R.th 0
      have M := R2.1.1
      have f1 := q_isCell0 R2 W hc
      show mX16_agreed h1 m t i j dn = _
      rw [mX16_agreed, b_pI, if_pos (qK0 R.1.1), b_rcv, if_pos (qK0 M), f1, o_bind, if_pos rfl, b_rcv, if_pos (qK0 M), q_lost M 1, o_bind]

/-! shy -/
theorem shy_b {c : Nat} {h : MHp} (L : CL c h) (t : Int32) (v : Int32) (hv : ¬ v = 0) : mX11_shy_b26 h c t (some c) v = some (-1, sI h c 15 v) := by
  have K : hK (sI h c 15 v) c = 12 := lK0 L
  rw [mX11_shy_b26, b_pI, if_pos (lK0 L), b_gI, if_pos K, e_Iself, if_neg hv]
theorem q_shl {m k ls cs : Nat} {h : MHp} {A : AS} (R : RR m h A) (e45 : hI h m 45 = Int32.ofNat ls) (e46 : hI h m 46 = Int32.ofNat cs) (hn : ls * cs ≤ 100) (hc : ∀ x : Nat, x < ls * cs → hAI h (m + 19) x = cnC A k x) : ∀ (q fu cl : Nat) (a : Int32), cl + q = ls * cs → q < fu → mX16_shy_l56 fu h m a (Int32.ofNat cl) = some (cntF (shQ A k) q cl a, rtb m h 0) := by
  intro q
  have L := R.1.1
  have K := qK0 L
  induction q with
  | zero =>
    intro fu cl a hq hf
    obtain ⟨fu, rfl⟩ : ∃ g : Nat, fu = g + 1 := ⟨fu - 1, by omega⟩
    rw [mX16_shy_l56, b_gI, if_pos K, e45, b_gI, if_pos K, e46, ← Int32.ofNat_mul, if_pos (by rw [le_of (by omega) (by omega)]; omega), b_rcv, if_pos K, q_done L, o_bind, cntF_0]
  | succ q ih =>
    intro fu cl a hq hf
    obtain ⟨fu, rfl⟩ : ∃ g : Nat, fu = g + 1 := ⟨fu - 1, by omega⟩
    have f1 := q_isShy R (show cl < 100 by omega) (hc cl (by omega))
    rw [mX16_shy_l56, b_gI, if_pos K, e45, b_gI, if_pos K, e46, ← Int32.ofNat_mul, if_neg (by rw [le_of (by omega) (by omega)]; omega), b_rcv, if_pos K, f1, o_bind, cntF_s]
    by_cases g : shQ A k cl = true
    · rw [if_pos g, if_neg n10, if_pos g, mX16_shy_b83, s1_of, ih fu (cl + 1) _ (by omega) (by omega)]
    · rw [if_neg g, if_pos rfl, if_neg g, mX16_shy_b83, s1_of, Int32.add_zero, ih fu (cl + 1) _ (by omega) (by omega)]
theorem x_shy {c m : Nat} {h : MHp} {A : AS} (C : CR c h A) (W : WA A) (t : Int32) : XS c m h A (mX11_shy h c t) (fun h1 => mX16_shy h1 m t) := by
  have L := C.l
  have h8 := W.2.2.1
  rcases rng t (aN A 1) with ⟨k, hk, rfl⟩ | hno
  · have e1 := p_hasTable1 C W hk
    have e2 := p_hasGuarded C W hk
    have WPk := W.2.2.2.2.2.1 k hk
    have wf := W.2.2.2.2.2.2.1
    have b0 : 0 < bF (aB A) := Nat.pos_of_ne_zero (fun e => by have := (wf e).1; omega)
    have bd := bad_n (k := k) (n := 9) (by omega) (by omega)
    have bk := bad_n (k := k) (n := 8) (by omega) (by omega)
    have clk : (Int32.ofNat k).toNatClampNeg = k := cl_of (by omega)
    by_cases g : gdB (aB A) (aP A k) = true
    · rw [if_pos g] at e2
      have n60 := gdB_60 g
      have C2 : CR c (sI h c 15 0) (tb A 0) := C.tb (by decide)
      have W2 : WA (tb A 0) := W.tb
      have L2 := C2.l
      have K2 := lK0 L2
      have e3 := p_hasTable1 C2 W2 hk
      obtain ⟨p1, p2, p3, -, -⟩ := C2.plan W2 hk
      obtain ⟨h3, e4, S3, y6, y7, yc⟩ := p_open C2 W2 hk
      have C3 := C2.sc W2 S3
      have L3 := C3.l
      have x6 : hAI h3 (c + 184) 0 = aS A 6 := C3.2.2.1.1
      have e5 : mX3_shyCells h3 (c + 200) (aS A 6) = some (msL (shQ A k) (vs (aB A) (pI1 (aP A k)) * vs (aB A) (pI2 (aP A k))) 0 0) := p_shyCells (A := tb A 0) L3 y6 y7 n60 yc
      refine ⟨cntF (shQ A k) (vs (aB A) (pI1 (aP A k)) * vs (aB A) (pI2 (aP A k))) 0 0, tb A 0, W2, ⟨h3, ?_, C3, (Oc.I0 15 0).tr S3.oc⟩, fun h1 R => ?_⟩
      · rw [mX11_shy, b_rcv, if_pos (lK0 L), e1, o_bind, if_neg n10, b_rcv, if_pos (lK0 L), e2, o_bind, if_neg n10, mX11_shy_b26, b_pI, if_pos (lK0 L), b_gI, if_pos K2, e_Iself, if_pos (show (0 : Int32) = 0 from rfl), b_rcv, if_pos K2, e3, o_bind, if_neg n10, b_gR, if_pos K2, lR0_10 L2, b_gR, if_pos K2, lR0_3 L2, b_gAR, if_pos (lK119 L2), lN119 L2, if_neg bd, clk, p2, b_rcv, if_pos (lK200 L2), e4, o_bind, b_gR, if_pos (lK0 L3), lR0_10 L3, b_gR, if_pos (lK0 L3), lR0_5 L3, b_gAI, if_pos (lK184 L3), lN184 L3, if_neg (show ¬ bad 0 4 = true by decide), show (0 : Int32).toNatClampNeg = 0 from rfl, x6, b_rcv, if_pos (lK200 L3), e5, o_bind, p_popm _ _ (by omega), o_bind]
      · have R2 := R.th 0
        have M := R2.1.1
        have f1 := q_isTable1 R2 W hk
        obtain ⟨b, Q⟩ := R2.rq W b0
        obtain ⟨p, q1, q2, -, -⟩ := R2.2.2.2.2.2 k hk
        have f2 := q_isByTwo Q q2 WPk
        rw [if_pos g] at f2
        obtain ⟨h4, f3, S4, z45, z46, zc, -⟩ := q_counts Q q2 W (Or.inl rfl) hk
        have R4 := R2.sc S4
        have f4 := q_shl R4 z45 z46 (by omega) zc (vs (aB A) (pI1 (aP A k)) * vs (aB A) (pI2 (aP A k))) FUEL 0 0 (by omega) (by unfold FUEL; omega)
        have f4' : mX16_shy_l56 FUEL h4 m 0 0 = _ := f4
        refine ⟨rtb m h4 0, ?_, R4.tb (by decide), ((Om.th 0).tr S4.om).tr Om.tb⟩
        show mX16_shy h1 m (Int32.ofNat k) = _
        rw [mX16_shy, b_pI, if_pos (qK0 R.1.1), b_rcv, if_pos (qK0 M), f1, o_bind, if_neg n10, b_gR, if_pos (qK0 M), qR6 M, b_gAR, if_pos (qK1 M), qN1 M, if_neg bk, clk, q1, b_rcv, if_pos (qK0 M), f2, o_bind, if_neg n10, b_gR, if_pos (qK0 M), qR6 M, b_gAR, if_pos (qK1 M), qN1 M, if_neg bk, clk, q1, b_gR, if_pos (qK0 M), qR42 M, b_rcv, if_pos (qK0 M), f3, o_bind, f4']
    · rw [if_neg g] at e2
      refine XS.no (v := -1) 5 (by decide) C W (fun _ _ => Or.inr trivial) ?_ (fun h1 R => ⟨sI h1 m 0 0, Rs.I 0 0 (by decide), ?_⟩)
      · rw [mX11_shy, b_rcv, if_pos (lK0 L), e1, o_bind, if_neg n10, b_rcv, if_pos (lK0 L), e2, o_bind, if_pos rfl, shy_b L _ 5 n50]
      · have R2 := R.th 0
        have M := R2.1.1
        have f1 := q_isTable1 R2 W hk
        obtain ⟨b, Q⟩ := R2.rq W b0
        obtain ⟨p, q1, q2, -, -⟩ := R2.2.2.2.2.2 k hk
        have f2 := q_isByTwo Q q2 WPk
        rw [if_neg g] at f2
        show mX16_shy h1 m (Int32.ofNat k) = _
        rw [mX16_shy, b_pI, if_pos (qK0 R.1.1), b_rcv, if_pos (qK0 M), f1, o_bind, if_neg n10, b_gR, if_pos (qK0 M), qR6 M, b_gAR, if_pos (qK1 M), qN1 M, if_neg bk, clk, q1, b_rcv, if_pos (qK0 M), f2, o_bind, if_pos rfl, b_rcv, if_pos (qK0 M), q_refused M 5, o_bind]
  · have e1 := p_hasTable0 C W hno
    refine XS.no (v := -1) 1 (by decide) C W (fun _ _ => Or.inr trivial) ?_ (fun h1 R => ⟨sI h1 m 0 0, Rs.I 0 0 (by decide), ?_⟩)
    · rw [mX11_shy, b_rcv, if_pos (lK0 L), e1, o_bind, if_pos rfl, shy_b L _ 1 n10]
    · have R2 := R.th 0
      have M := R2.1.1
      have f1 := q_isTable0 R2 W hno
      show mX16_shy h1 m t = _
      rw [mX16_shy, b_pI, if_pos (qK0 R.1.1), b_rcv, if_pos (qK0 M), f1, o_bind, if_pos rfl, b_rcv, if_pos (qK0 M), q_refused M 1, o_bind]
/-! differing -/
def dfQ (A : AS) (k k' cl : Nat) : Bool := decide (1 ≤ (if 0 ≤ cnC A k cl - cnC A k' cl then cnC A k cl - cnC A k' cl else -(cnC A k cl - cnC A k' cl)) ∧ (if 0 ≤ cnC A k cl - cnC A k' cl then cnC A k cl - cnC A k' cl else -(cnC A k cl - cnC A k' cl)) ≤ aS A 6 - 1)
theorem j_abs (h : MHp) (a : Int32) : mJ9_abs_0f7a4 h a = some (if 0 ≤ a then a else -a) := by
  unfold mJ9_abs_0f7a4
  by_cases g : 0 ≤ a
  · rw [if_pos g, if_pos g]
  · rw [if_neg g, if_neg g]
theorem cnC_0 {A : AS} (W : WA A) {k cl : Nat} (hk : k < aN A 1) (hcl : vs (aB A) (pI1 (aP A k)) * vs (aB A) (pI2 (aP A k)) ≤ cl) (h100 : cl < 100) : cnC A k cl = 0 := by
  have WPk := W.2.2.2.2.2.1 k hk
  have e : cntF (cnQ A k cl) (aN A 2) 0 0 = cntF (fun _ => false) (aN A 2) 0 0 := cntF_congr _ _ _ (fun r _ hr => by
    have : ¬ clA2 (aB A) (aP A k) (vX A r (aS A 3) 0) = Int32.ofNat cl := by
      rcases clA2_in WPk (vA_in W (show r < aN A 2 by omega) (show 0 < 5 by omega) (aS A 3)) with q | ⟨i, j, hi, hj, q⟩
      · rw [q]; exact fun e => nm_of (by omega) e.symm
      · have hc := cell_lt hi hj
        rw [q, eq_of (by omega) (by omega)]; omega
    simp [cnQ, this])
  have z := cntF_cut (fun _ => false) 0 (aN A 2) 0 0 (fun _ _ => rfl)
  rw [Nat.zero_add] at z
  unfold cnC
  rw [e, z, cntF_0]
theorem c_dfl {c k k' : Nat} {h : MHp} {A : AS} (L : CL c h) (h1 : ∀ cl : Nat, cl < 100 → hAI h (c + 201) cl = cnC A k cl) (h2 : ∀ cl : Nat, cl < 100 → hAI h (c + 202) cl = cnC A k' cl) : ∀ (q fu cl : Nat) (a : Int32), cl + q = 100 → q < fu → mX3_differingCells_l30 fu h (c + 200) (aS A 6) a (Int32.ofNat cl) = some (cntF (dfQ A k k') q cl a, h) := by
  intro q
  have K := lK200 L
  induction q with
  | zero =>
    intro fu cl a hq hf
    obtain ⟨fu, rfl⟩ : ∃ g : Nat, fu = g + 1 := ⟨fu - 1, by omega⟩
    rw [mX3_differingCells_l30, if_pos (by rw [show (100 : Int32) = Int32.ofNat 100 from rfl, le_of (by omega) (by omega)]; omega), cntF_0]
  | succ q ih =>
    intro fu cl a hq hf
    obtain ⟨fu, rfl⟩ : ∃ g : Nat, fu = g + 1 := ⟨fu - 1, by omega⟩
    have bw := bad_n (k := cl) (n := 100) (by omega) (by omega)
    have clw : (Int32.ofNat cl).toNatClampNeg = cl := cl_of (by omega)
    rw [mX3_differingCells_l30, if_neg (by rw [show (100 : Int32) = Int32.ofNat 100 from rfl, le_of (by omega) (by omega)]; omega), b_gR, if_pos K, lR200_1 L, b_gAI, if_pos (lK201 L), lN201 L, if_neg bw, clw, h1 cl (by omega), b_gR, if_pos K, lR200_2 L, b_gAI, if_pos (lK202 L), lN202 L, if_neg bw, clw, h2 cl (by omega), j_abs, o_bind, p_within, o_bind, cntF_s]
    by_cases g : dfQ A k k' cl = true
    · have g2 := g
      unfold dfQ at g2
      rw [decide_eq_true_eq] at g2
      rw [if_pos g2, if_neg n10, if_pos g, mX3_differingCells_b68, s1_of, ih fu (cl + 1) _ (by omega) (by omega)]
    · have g2 := g
      unfold dfQ at g2
      rw [decide_eq_true_eq] at g2
      rw [if_neg g2, if_pos rfl, if_neg g, mX3_differingCells_b68, s1_of, ih fu (cl + 1) _ (by omega) (by omega)]
theorem q_dfl {m k k' ls cs : Nat} {h : MHp} {A : AS} (R : RR m h A) (e45 : hI h m 45 = Int32.ofNat ls) (e46 : hI h m 46 = Int32.ofNat cs) (hn : ls * cs ≤ 100) (h1 : ∀ x : Nat, x < ls * cs → hAI h (m + 19) x = cnC A k x) (h2 : ∀ x : Nat, x < ls * cs → hAI h (m + 20) x = cnC A k' x) : ∀ (q fu cl : Nat) (a : Int32), cl + q = ls * cs → q < fu → mX16_differing_l114 fu h m a (Int32.ofNat cl) = some (cntF (dfQ A k k') q cl a, rtb m h 0) := by
  intro q
  have L := R.1.1
  have K := qK0 L
  have x37 : hI h m 37 = aS A 6 := R.2.1.2.2.2.2.2.2.2.2.2.2.1
  induction q with
  | zero =>
    intro fu cl a hq hf
    obtain ⟨fu, rfl⟩ : ∃ g : Nat, fu = g + 1 := ⟨fu - 1, by omega⟩
    rw [mX16_differing_l114, b_gI, if_pos K, e45, b_gI, if_pos K, e46, ← Int32.ofNat_mul, if_pos (by rw [le_of (by omega) (by omega)]; omega), b_rcv, if_pos K, q_done L, o_bind, cntF_0]
  | succ q ih =>
    intro fu cl a hq hf
    obtain ⟨fu, rfl⟩ : ∃ g : Nat, fu = g + 1 := ⟨fu - 1, by omega⟩
    have bw := bad_n (k := cl) (n := 100) (by omega) (by omega)
    have clw : (Int32.ofNat cl).toNatClampNeg = cl := cl_of (by omega)
    rw [mX16_differing_l114, b_gI, if_pos K, e45, b_gI, if_pos K, e46, ← Int32.ofNat_mul, if_neg (by rw [le_of (by omega) (by omega)]; omega), b_gR, if_pos K, qR42 L, b_gAI, if_pos (qK19 L), qN19 L, if_neg bw, clw, h1 cl (by omega), b_gR, if_pos K, qR43 L, b_gAI, if_pos (qK20 L), qN20 L, if_neg bw, clw, h2 cl (by omega), j_abs, o_bind, b_gI, if_pos K, x37, q_in, o_bind, cntF_s]
    by_cases g : dfQ A k k' cl = true
    · have g2 := g
      unfold dfQ at g2
      rw [decide_eq_true_eq] at g2
      rw [if_pos g2, if_neg n10, if_pos g, mX16_differing_b166, s1_of, ih fu (cl + 1) _ (by omega) (by omega)]
    · have g2 := g
      unfold dfQ at g2
      rw [decide_eq_true_eq] at g2
      rw [if_neg g2, if_pos rfl, if_neg g, mX16_differing_b166, s1_of, Int32.add_zero, ih fu (cl + 1) _ (by omega) (by omega)]
def lkB (P P' : Pl) : Bool := decide (pS P = none ∧ pS P' = none ∧ pI1 P = pI1 P' ∧ pI2 P = pI2 P')
theorem oi_inj {n : Nat} {o o' : Option Nat} (hn : n ≤ 6) (W : WO n o) (W' : WO n o') : (oi o = oi o') = (o = o') := by
  cases o with
  | none =>
    cases o' with
    | none => exact propext ⟨fun _ => rfl, fun _ => rfl⟩
    | some f =>
      have := W' f rfl
      have e := nm_of (k := f) (by omega)
      exact propext ⟨fun h => absurd h.symm e, fun h => by cases h⟩
  | some f =>
    have w := W f rfl
    cases o' with
    | none =>
      have e := nm_of (k := f) (by omega)
      exact propext ⟨fun h => absurd h e, fun h => by cases h⟩
    | some g =>
      have w' := W' g rfl
      have e : (Int32.ofNat f = Int32.ofNat g) = (f = g) := eq_of (by omega) (by omega)
      show (Int32.ofNat f = Int32.ofNat g) = _
      rw [e]
      exact propext ⟨fun h => by rw [h], fun h => by cases h; rfl⟩
theorem p_like2 {h : MHp} {p p' : Nat} {B : Bk} {P P' : Pl} (I : IsP h p) (C : CP h p B P) (I' : IsP h p') (C' : CP h p' B P') (hB : bF B ≤ 6) (W : WP B P) (W' : WP B P') : mX7_countsLike h p (some p') = some (if lkB P P' = true then 1 else 0) := by
  have a1 := oi_n hB W.1
  have a2 := oi_n hB W'.1
  have a3 := oi_inj hB W.2.1 W'.2.1
  have a4 := oi_inj hB W.2.2.1 W'.2.2.1
  rw [mX7_countsLike, b_gI, if_pos I.1, C.1]
  by_cases g1 : pS P = none
  · rw [if_pos (by rw [a1]; exact g1), b_gI, if_pos I'.1, C'.1]
    by_cases g2 : pS P' = none
    · rw [if_pos (by rw [a2]; exact g2), b_gI, if_pos I.1, C.2.1, b_gI, if_pos I'.1, C'.2.1]
      by_cases g3 : pI1 P = pI1 P'
      · rw [if_pos (by rw [a3]; exact g3), b_gI, if_pos I.1, C.2.2.1, b_gI, if_pos I'.1, C'.2.2.1]
        by_cases g4 : pI2 P = pI2 P'
        · rw [if_pos (by rw [a4]; exact g4)]; simp [lkB, g1, g2, g3, g4]
        · rw [if_neg (by rw [a4]; exact g4)]; simp [lkB, g4]
      · rw [if_neg (by rw [a3]; exact g3)]; simp [lkB, g3]
    · rw [if_neg (by rw [a2]; exact g2)]; simp [lkB, g2]
  · rw [if_neg (by rw [a1]; exact g1)]; simp [lkB, g1]
theorem dif_b {c : Nat} {h : MHp} (L : CL c h) (t t' : Int32) (v : Int32) (hv : ¬ v = 0) : mX11_differing_b44 h c t t' (some c) v = some (-1, sI h c 15 v) := by
  have K : hK (sI h c 15 v) c = 12 := lK0 L
  rw [mX11_differing_b44, b_pI, if_pos (lK0 L), b_gI, if_pos K, e_Iself, if_neg hv]
theorem x_differing {c m : Nat} {h : MHp} {A : AS} (C : CR c h A) (W : WA A) (t t' : Int32) : XS c m h A (mX11_differing h c t t') (fun h1 => mX16_differing h1 m t t') := by
  have L := C.l
  have h8 := W.2.2.1
  have h6 := W.1.1
  have r21 : ∀ h1 : MHp, RR m h1 A → mX16_differing_b21 (sI h1 m 0 0) m = some (-1, rtb m (sI h1 m 0 0) 1) := fun h1 R => by
    have M := (R.th 0).1.1
    rw [mX16_differing_b21, b_rcv, if_pos (qK0 M), q_refused M 1, o_bind]
  have r83 : ∀ h1 : MHp, RR m h1 A → mX16_differing_b83 (sI h1 m 0 0) m = some (-1, rtb m (sI h1 m 0 0) 5) := fun h1 R => by
    have M := (R.th 0).1.1
    rw [mX16_differing_b83, b_rcv, if_pos (qK0 M), q_refused M 5, o_bind]
  rcases rng t (aN A 1) with ⟨k, hk, rfl⟩ | hno
  · have e1 := p_hasTable1 C W hk
    rcases rng t' (aN A 1) with ⟨k', hk', rfl⟩ | hno'
    · have e1' := p_hasTable1 C W hk'
      have WPk := W.2.2.2.2.2.1 k hk
      have WPk' := W.2.2.2.2.2.1 k' hk'
      have wf := W.2.2.2.2.2.2.1
      have b0 : 0 < bF (aB A) := Nat.pos_of_ne_zero (fun e => by have := (wf e).1; omega)
      have bd := bad_n (k := k) (n := 9) (by omega) (by omega)
      have bk := bad_n (k := k) (n := 8) (by omega) (by omega)
      have clk : (Int32.ofNat k).toNatClampNeg = k := cl_of (by omega)
      have bd' := bad_n (k := k') (n := 9) (by omega) (by omega)
      have bk' := bad_n (k := k') (n := 8) (by omega) (by omega)
      have clk' : (Int32.ofNat k').toNatClampNeg = k' := cl_of (by omega)
      obtain ⟨c1, c2, c3, -, -⟩ := C.plan W hk
      obtain ⟨d1, d2, d3, -, -⟩ := C.plan W hk'
      have e2 := p_like2 c1 c3 d1 d3 h6 WPk WPk'
      have hm := vs_mul W.1 WPk.2.1 WPk.2.2.1
      have base : ∀ h1 : MHp, RR m h1 A → ∃ p p' : Nat, hAR (sI h1 m 0 0) (m + 1) k = some p ∧ hAR (sI h1 m 0 0) (m + 1) k' = some p' ∧ RP (m + 26) (sI h1 m 0 0) p (aP A k) ∧ RP (m + 26) (sI h1 m 0 0) p' (aP A k') ∧ mX16_differing h1 m (Int32.ofNat k) (Int32.ofNat k') = (if lkB (aP A k) (aP A k') = true then (gR 17 42 (sI h1 m 0 0) (some m)).bind fun x33 => (rcv 17 (sI h1 m 0 0) (some m)).bind fun b35 => (mX16_counts (sI h1 m 0 0) b35 (some p) x33).bind fun r34 => (gR 17 43 r34 (some m)).bind fun x36 => (rcv 17 r34 (some m)).bind fun b38 => (mX16_counts r34 b38 (some p') x36).bind fun r37 => mX16_differing_l114 FUEL r37 m 0 0 else mX16_differing_b83 (sI h1 m 0 0) m) := fun h1 R => by
        have R2 := R.th 0
        have M := R2.1.1
        have f1 := q_isTable1 R2 W hk
        have f1' := q_isTable1 R2 W hk'
        obtain ⟨p, q1, q2, -, -⟩ := R2.2.2.2.2.2 k hk
        obtain ⟨p', q1', q2', -, -⟩ := R2.2.2.2.2.2 k' hk'
        refine ⟨p, p', q1, q1', q2, q2', ?_⟩
        have a1 := oi_n h6 WPk.1
        have a2 := oi_n h6 WPk'.1
        have a3 := oi_inj h6 WPk.2.1 WPk'.2.1
        have a4 := oi_inj h6 WPk.2.2.1 WPk'.2.2.1
        rw [mX16_differing, b_pI, if_pos (qK0 R.1.1), b_rcv, if_pos (qK0 M), f1, o_bind, if_neg n10, b_rcv, if_pos (qK0 M), f1', o_bind, if_neg n10, b_gR, if_pos (qK0 M), qR6 M, b_gAR, if_pos (qK1 M), qN1 M, if_neg bk, clk, q1, b_gR, if_pos (qK0 M), qR6 M, b_gAR, if_pos (qK1 M), qN1 M, if_neg bk', clk', q1', b_gI, if_pos q2.1.1, q2.2.1]
        by_cases g1 : pS (aP A k) = none
        · rw [if_pos (by rw [a1]; exact g1), b_gI, if_pos q2'.1.1, q2'.2.1]
          by_cases g2 : pS (aP A k') = none
          · rw [if_pos (by rw [a2]; exact g2), b_gI, if_pos q2.1.1, q2.2.2.1, b_gI, if_pos q2'.1.1, q2'.2.2.1]
            by_cases g3 : pI1 (aP A k) = pI1 (aP A k')
            · rw [if_pos (by rw [a3]; exact g3), b_gI, if_pos q2.1.1, q2.2.2.2.1, b_gI, if_pos q2'.1.1, q2'.2.2.2.1]
              by_cases g4 : pI2 (aP A k) = pI2 (aP A k')
              · rw [if_pos (by rw [a4]; exact g4), if_pos (by simp [lkB, g1, g2, g3, g4])]
              · rw [if_neg (by rw [a4]; exact g4), if_neg (by simp [lkB, g4])]
            · rw [if_neg (by rw [a3]; exact g3), if_neg (by simp [lkB, g3])]
          · rw [if_neg (by rw [a2]; exact g2), if_neg (by simp [lkB, g2])]
        · rw [if_neg (by rw [a1]; exact g1), if_neg (by simp [lkB, g1])]
      by_cases g : lkB (aP A k) (aP A k') = true
      · rw [if_pos g] at e2
        have gs := g
        unfold lkB at gs
        rw [decide_eq_true_eq] at gs
        obtain ⟨-, -, s1, s2⟩ := gs
        have C2 : CR c (sI h c 15 0) (tb A 0) := C.tb (by decide)
        have W2 : WA (tb A 0) := W.tb
        have L2 := C2.l
        have K2 := lK0 L2
        have e3 := p_hasTable1 C2 W2 hk
        have e3' := p_hasTable1 C2 W2 hk'
        obtain ⟨p1, p2, p3, -, -⟩ := C2.plan W2 hk
        obtain ⟨p1', p2', p3', -, -⟩ := C2.plan W2 hk'
        have x6 : hAI (sI h c 15 0) (c + 184) 0 = aS A 6 := C2.2.2.1.1
        obtain ⟨h3, e4, S3, y1, -, -⟩ := p_countRows C2 W2 hk (Or.inl rfl)
        have C3 := C2.sc W2 S3
        have L3 := C3.l
        obtain ⟨h4, e5, S4, z1, -, z2⟩ := p_countRows C3 W2 hk' (Or.inr rfl)
        have C4 := C3.sc W2 S4
        have L4 := C4.l
        have e6 : mX3_differingCells_l30 FUEL h4 (c + 200) (aS A 6) 0 0 = some (cntF (dfQ A k k') 100 0 0, h4) := c_dfl (A := tb A 0) (k := k) (k' := k') L4 (fun cl hcl => by rw [z2 _ (by omega) (by omega)]; exact y1 cl hcl) z1 100 FUEL 0 0 (by omega) (by unfold FUEL; omega)
        refine ⟨cntF (dfQ A k k') 100 0 0, tb A 0, W2, ⟨h4, ?_, C4, ((Oc.I0 15 0).tr S3.oc).tr S4.oc⟩, fun h1 R => ?_⟩
        · rw [mX11_differing, b_rcv, if_pos (lK0 L), e1, o_bind, if_neg n10, b_rcv, if_pos (lK0 L), e1', o_bind, if_neg n10, b_gR, if_pos (lK0 L), lR0_3 L, b_gAR, if_pos (lK119 L), lN119 L, if_neg bd, clk, c2, b_gR, if_pos (lK0 L), lR0_3 L, b_gAR, if_pos (lK119 L), lN119 L, if_neg bd', clk', d2, b_rcv, if_pos c1.1, e2, o_bind, if_neg n10, mX11_differing_b44, b_pI, if_pos (lK0 L), b_gI, if_pos K2, e_Iself, if_pos (show (0 : Int32) = 0 from rfl), b_rcv, if_pos K2, e3, o_bind, if_neg n10, b_rcv, if_pos K2, e3', o_bind, if_neg n10, b_gR, if_pos K2, lR0_10 L2, b_gR, if_pos K2, lR0_3 L2, b_gAR, if_pos (lK119 L2), lN119 L2, if_neg bd, clk, p2, b_gR, if_pos K2, lR0_3 L2, b_gAR, if_pos (lK119 L2), lN119 L2, if_neg bd', clk', p2', b_gR, if_pos K2, lR0_5 L2, b_gAI, if_pos (lK184 L2), lN184 L2, if_neg (show ¬ bad 0 4 = true by decide), show (0 : Int32).toNatClampNeg = 0 from rfl, x6, b_rcv, if_pos (lK200 L2), mX3_differingCells, b_gR, if_pos (lK200 L2), lR200_0 L2, b_gR, if_pos (lK200 L2), lR200_1 L2, b_rcv, if_pos (lK192 L2), e4, o_bind, b_gR, if_pos (lK200 L3), lR200_0 L3, b_gR, if_pos (lK200 L3), lR200_2 L3, b_rcv, if_pos (lK192 L3), e5, o_bind, e6, o_bind]
        · have R2 := R.th 0
          have M := R2.1.1
          obtain ⟨b, Q⟩ := R2.rq W b0
          obtain ⟨p, p', q1, q1', q2, q2', f0⟩ := base h1 R
          obtain ⟨h5, f3, S5, -, -, zc, -⟩ := q_counts Q q2 W (Or.inl rfl) hk
          have R5 := R2.sc S5
          have M5 := R5.1.1
          obtain ⟨h6, f4, S6, z45, z46, zc', zo⟩ := q_counts (Q.sc S5) (q2'.ag (S5.out (Or.inr (by omega))) (by rw [S5.2.2.2.2.1]; omega)) W (Or.inr rfl) hk'
          have R6 := R5.sc S6
          rw [← s1] at z45
          rw [← s2] at z46
          rw [← s1, ← s2] at zc'
          have f5 := q_dfl (k := k) (k' := k') R6 z45 z46 (by omega) (fun x hx => by rw [zo _ (by omega) (by omega)]; exact zc x hx) zc' (vs (aB A) (pI1 (aP A k)) * vs (aB A) (pI2 (aP A k))) FUEL 0 0 (by omega) (by unfold FUEL; omega)
          have f5' : mX16_differing_l114 FUEL h6 m 0 0 = _ := f5
          have cut : cntF (dfQ A k k') 100 0 0 = cntF (dfQ A k k') (vs (aB A) (pI1 (aP A k)) * vs (aB A) (pI2 (aP A k))) 0 0 := by
            rw [cntF_congr (q := fun x => decide (x < 100) && dfQ A k k' x) 100 0 0 (fun r _ hr => by
              have : r < 100 := by omega
              simp [this]), show (100 : Nat) = vs (aB A) (pI1 (aP A k)) * vs (aB A) (pI2 (aP A k)) + (100 - vs (aB A) (pI1 (aP A k)) * vs (aB A) (pI2 (aP A k))) by omega, cntF_cut _ _ _ _ _ (fun x hx => by
              by_cases x100 : x < 100
              · have a1 := cnC_0 W hk (show _ ≤ x by omega) x100
                have a2 := cnC_0 W hk' (by rw [← s1, ← s2]; omega) x100
                have : dfQ A k k' x = false := by
                  unfold dfQ
                  rw [a1, a2, decide_eq_false_iff_not]
                  rintro ⟨hh, -⟩
                  revert hh
                  decide
                rw [this, Bool.and_false]
              · have : ¬ x < vs (aB A) (pI1 (aP A k)) * vs (aB A) (pI2 (aP A k)) + (100 - vs (aB A) (pI1 (aP A k)) * vs (aB A) (pI2 (aP A k))) := by omega
                rw [decide_eq_false this, Bool.false_and])]
            exact cntF_congr _ _ _ (fun r _ hr => by
              have : r < vs (aB A) (pI1 (aP A k)) * vs (aB A) (pI2 (aP A k)) + (100 - vs (aB A) (pI1 (aP A k)) * vs (aB A) (pI2 (aP A k))) := by omega
              rw [decide_eq_true this, Bool.true_and])
          refine ⟨rtb m h6 0, ?_, R6.tb (by decide), (((Om.th 0).tr S5.om).tr S6.om).tr Om.tb⟩
          show mX16_differing h1 m (Int32.ofNat k) (Int32.ofNat k') = _
          rw [f0, if_pos g, b_gR, if_pos (qK0 M), qR42 M, b_rcv, if_pos (qK0 M), f3, o_bind, b_gR, if_pos (qK0 M5), qR43 M5, b_rcv, if_pos (qK0 M5), f4, o_bind, f5', cut]
      · rw [if_neg g] at e2
        refine XS.no (v := -1) 5 (by decide) C W (fun _ _ => Or.inr trivial) ?_ (fun h1 R => ⟨sI h1 m 0 0, Rs.I 0 0 (by decide), ?_⟩)
        · rw [mX11_differing, b_rcv, if_pos (lK0 L), e1, o_bind, if_neg n10, b_rcv, if_pos (lK0 L), e1', o_bind, if_neg n10, b_gR, if_pos (lK0 L), lR0_3 L, b_gAR, if_pos (lK119 L), lN119 L, if_neg bd, clk, c2, b_gR, if_pos (lK0 L), lR0_3 L, b_gAR, if_pos (lK119 L), lN119 L, if_neg bd', clk', d2, b_rcv, if_pos c1.1, e2, o_bind, if_pos rfl, dif_b L _ _ 5 n50]
        · obtain ⟨p, p', q1, q1', q2, q2', f0⟩ := base h1 R
          show mX16_differing h1 m (Int32.ofNat k) (Int32.ofNat k') = _
          rw [f0, if_neg g, r83 h1 R]
    · have e1' := p_hasTable0 C W hno'
      refine XS.no (v := -1) 1 (by decide) C W (fun _ _ => Or.inr trivial) ?_ (fun h1 R => ⟨sI h1 m 0 0, Rs.I 0 0 (by decide), ?_⟩)
      · rw [mX11_differing, b_rcv, if_pos (lK0 L), e1, o_bind, if_neg n10, b_rcv, if_pos (lK0 L), e1', o_bind, if_pos rfl, mX11_differing_b17, dif_b L _ _ 1 n10]
      · have R2 := R.th 0
        have M := R2.1.1
        have f1 := q_isTable1 R2 W hk
        have f1' := q_isTable0 R2 W hno'
        show mX16_differing h1 m (Int32.ofNat k) t' = _
        rw [mX16_differing, b_pI, if_pos (qK0 R.1.1), b_rcv, if_pos (qK0 M), f1, o_bind, if_neg n10, b_rcv, if_pos (qK0 M), f1', o_bind, if_pos rfl, r21 h1 R]
  · have e1 := p_hasTable0 C W hno
    refine XS.no (v := -1) 1 (by decide) C W (fun _ _ => Or.inr trivial) ?_ (fun h1 R => ⟨sI h1 m 0 0, Rs.I 0 0 (by decide), ?_⟩)
    · rw [mX11_differing, b_rcv, if_pos (lK0 L), e1, o_bind, if_pos rfl, mX11_differing_b17, dif_b L _ _ 1 n10]
    · have R2 := R.th 0
      have M := R2.1.1
      have f1 := q_isTable0 R2 W hno
      show mX16_differing h1 m t t' = _
      rw [mX16_differing, b_pI, if_pos (qK0 R.1.1), b_rcv, if_pos (qK0 M), f1, o_bind, if_pos rfl, r21 h1 R]

/-! sums of a line are no more than the rows -/
def ctN (P : Nat → Bool) : Nat → Nat → Nat
  | 0, _ => 0
  | q + 1, k => (if P k = true then 1 else 0) + ctN P q (k + 1)
theorem ctN_s (P : Nat → Bool) (q k : Nat) : ctN P (q + 1) k = (if P k = true then 1 else 0) + ctN P q (k + 1) := (rfl)
theorem cntF_N (P : Nat → Bool) : ∀ (q k a : Nat), cntF P q k (Int32.ofNat a) = Int32.ofNat (a + ctN P q k)
  | 0, k, a => by rw [cntF_0]; rfl
  | q + 1, k, a => by
    rw [cntF_s, ctN_s]
    by_cases g : P k = true
    · rw [if_pos g, if_pos g, s1_of, cntF_N P q (k + 1) (a + 1), Nat.add_assoc]
    · rw [if_neg g, if_neg g, cntF_N P q (k + 1) a, Nat.zero_add]
theorem ctN_le (P : Nat → Bool) : ∀ q k : Nat, ctN P q k ≤ q
  | 0, k => Nat.le_refl _
  | q + 1, k => by
    have := ctN_le P q (k + 1)
    rw [ctN_s]
    by_cases g : P k = true
    · rw [if_pos g]; omega
    · rw [if_neg g]; omega
theorem sm_one {f : Nat → Int} : ∀ n : Nat, (∀ j : Nat, j < n → f j = 0 ∨ f j = 1) → (∀ j j' : Nat, j < n → j' < n → f j = 1 → f j' = 1 → j = j') → sm f n ≤ 1
  | 0, _, _ => by rw [sm_0]; omega
  | n + 1, h1, h2 => by
    rw [sm_s]
    rcases h1 n (by omega) with e | e
    · have := sm_one n (fun j hj => h1 j (by omega)) (fun j j' a b => h2 j j' (by omega) (by omega))
      omega
    · have z : sm f n = 0 := by
        rw [sm_congr (g := fun _ => 0) n (fun j hj => ?_), sm_zero]
        rcases h1 j (by omega) with e2 | e2
        · exact e2
        · have := h2 j n (by omega) (by omega) e2 e
          omega
      omega
theorem sm_ct {P : Nat → Nat → Bool} {n : Nat} : ∀ q k : Nat, (∀ j j' r : Nat, j < n → j' < n → k ≤ r → r < k + q → P j r = true → P j' r = true → j = j') → sm (fun j => (ctN (P j) q k : Int)) n ≤ (q : Int)
  | 0, k, _ => by
    have : sm (fun j => (ctN (P j) 0 k : Int)) n = 0 := by
      exact sm_zero n
    rw [this]; omega
  | q + 1, k, h => by
    have e : sm (fun j => (ctN (P j) (q + 1) k : Int)) n = sm (fun j => if P j k = true then (1 : Int) else 0) n + sm (fun j => (ctN (P j) q (k + 1) : Int)) n := by
      rw [← sm_add]
      refine sm_congr n (fun j _ => ?_)
      show ((ctN (P j) (q + 1) k : Nat) : Int) = (if P j k = true then (1 : Int) else 0) + (ctN (P j) q (k + 1) : Int)
      rw [ctN_s]
      by_cases g : P j k = true
      · rw [if_pos g, if_pos g]; omega
      · rw [if_neg g, if_neg g]; omega
    have h1 : sm (fun j => if P j k = true then (1 : Int) else 0) n ≤ 1 := by
      refine sm_one n (fun j _ => ?_) (fun j j' hj hj' a b => ?_)
      · by_cases g : P j k = true
        · exact Or.inr (if_pos g)
        · exact Or.inl (if_neg g)
      · have a' : (if P j k = true then (1 : Int) else 0) = 1 := a
        have b' : (if P j' k = true then (1 : Int) else 0) = 1 := b
        by_cases g : P j k = true
        · by_cases g' : P j' k = true
          · exact h j j' k hj hj' (Nat.le_refl _) (by omega) g g'
          · rw [if_neg g'] at b'; omega
        · rw [if_neg g] at a'; omega
    have h2 := sm_ct q (k + 1) (fun j j' r a b x y => h j j' r a b (by omega) (by omega))
    rw [e]; omega
def cnI (A : AS) (k cl : Nat) : Int := (ctN (cnQ A k cl) (aN A 2) 0 : Int)
theorem cnC_I (A : AS) (k cl : Nat) : cnC A k cl = Int32.ofInt (cnI A k cl) := by
  unfold cnC cnI
  rw [oI_n]
  have := cntF_N (cnQ A k cl) (aN A 2) 0 0
  rw [Nat.zero_add] at this
  exact this
theorem cnI_0 (A : AS) (k cl : Nat) : 0 ≤ cnI A k cl := Int.natCast_nonneg _
theorem cnI_60 {A : AS} (W : WA A) {k : Nat} (hk : k < aN A 1) : ∀ i : Nat, i < vs (aB A) (pI1 (aP A k)) → nS (vs (aB A) (pI1 (aP A k))) (vs (aB A) (pI2 (aP A k))) (cnI A k) i ≤ 60 := by
  intro i hi
  have h60 := W.2.2.2.1
  have WPk := W.2.2.2.2.2.1 k hk
  have hm := vs_mul W.1 WPk.2.1 WPk.2.2.1
  unfold nS
  rw [if_pos hi]
  have h1 := sm_ct (P := fun j r => cnQ A k (i * vs (aB A) (pI2 (aP A k)) + j) r) (n := vs (aB A) (pI2 (aP A k))) (aN A 2) 0 (fun j j' r hj hj' _ _ a b => by
    have a' : cnQ A k (i * vs (aB A) (pI2 (aP A k)) + j) r = true := a
    have b' : cnQ A k (i * vs (aB A) (pI2 (aP A k)) + j') r = true := b
    unfold cnQ at a' b'
    rw [Bool.and_eq_true, decide_eq_true_eq] at a' b'
    have c1 := cell_lt hi hj
    have c2 := cell_lt hi hj'
    have e := a'.2.symm.trans b'.2
    rw [eq_of (by omega) (by omega)] at e
    omega)
  have h2 : (aN A 2 : Int) ≤ 60 := by omega
  exact Int.le_trans h1 h2
theorem p_hasBits {h : MHp} {p : Nat} {B : Bk} {P : Pl} (I : IsP h p) (C : CP h p B P) (g : vs B (pI1 P) * vs B (pI2 P) ≤ 60) (x : Int64) : mX7_hasBits h p x = some (if btB x (vs B (pI1 P) * vs B (pI2 P)) = true then 1 else 0) := by
  have e := p_bits x (show vs B (pI1 P) * vs B (pI2 P) < 64 by omega)
  rw [mX7_hasBits, b_rcv, if_pos I.1, p_cells I C, o_bind, if_neg (by rw [show (60 : Int32) = Int32.ofNat 60 from rfl, lt_of (by omega) (by omega)]; omega), b_rcv, if_pos I.1, p_cells I C, o_bind]
  by_cases b : btB x (vs B (pI1 P) * vs B (pI2 P)) = true
  · rw [if_pos (by rw [e]; exact b), if_pos b]
  · rw [if_neg (by rw [e]; exact b), if_neg b]
theorem q_areBits {m ls cs : Nat} {h : MHp} (G : Rc m ls cs h) (x : Int64) : mX16_areBits h m x = some (if btB x (ls * cs) = true then 1 else 0) := by
  obtain ⟨L, g1, g2, g3, g4, g5⟩ := id G
  have K := qK0 L
  have e := q_bits x (show ls * cs < 63 by omega)
  rw [mX16_areBits]
  by_cases n : lg_cmp x 0 < 0
  · rw [if_pos n] at e
    rw [if_pos n, ← e]; rfl
  · rw [if_neg n] at e
    rw [if_neg n, b_gI, if_pos K, g1, b_gI, if_pos K, g2, ← Int32.ofNat_mul, ← e]
    by_cases b : lg_cmp (x >>> ((Int32.ofNat (ls * cs)).toInt64 &&& 63)) 0 = 0
    · rw [if_pos b, if_pos (decide_eq_true b)]
    · rw [if_neg b, if_neg (by rw [decide_eq_true_eq]; exact b)]
theorem edg_b {c : Nat} {h : MHp} (L : CL c h) (t i j : Int32) (o : Int64) (b : Int32) (v : Int32) (hv : ¬ v = 0) : mX11_edge_b49 h c t i j o b (some c) v = some (-1, sI h c 15 v) := by
  have K : hK (sI h c 15 v) c = 12 := lK0 L
  rw [mX11_edge_b49, b_pI, if_pos (lK0 L), b_gI, if_pos K, e_Iself, if_neg hv]
/-- the class's guard, opened on a table -/
theorem c_open {c k : Nat} {h : MHp} {A : AS} (C : CR c h A) (W : WA A) (hk : k < aN A 1) (g : gdB (aB A) (aP A k) = true) : ∃ h' : MHp, mX3_open h (c + 200) (some (c + 120 + 7 * k)) = some h' ∧ Sc c h h' ∧ Gc c (vs (aB A) (pI1 (aP A k))) (vs (aB A) (pI2 (aP A k))) h' ∧ (∀ cl : Nat, cl < vs (aB A) (pI1 (aP A k)) * vs (aB A) (pI2 (aP A k)) → hAI h' (c + 201) cl = Int32.ofInt (cnI A k cl) ∧ 0 ≤ cnI A k cl) ∧ ∀ cl : Nat, cl < 100 → hAI h' (c + 201) cl = cnC A k cl := by
  have WPk := W.2.2.2.2.2.1 k hk
  obtain ⟨h', e, S, y6, y7, yc⟩ := p_open C W hk
  have n60 := gdB_60 g
  exact ⟨h', e, S, ⟨S.CL C.l, y6, y7, vs_le W.1 WPk.2.1, vs_le W.1 WPk.2.2.1, n60⟩, fun cl hcl => ⟨by rw [yc cl (by omega), cnC_I], cnI_0 A k cl⟩, yc⟩
/-- the reference's counts of a table -/
theorem r_open {m k p b : Nat} {h : MHp} {A : AS} (Q : RQ m b (aN A 2) h A) (P : RP (m + 26) h p (aP A k)) (W : WA A) (hk : k < aN A 1) (g : gdB (aB A) (aP A k) = true) : ∃ h1 : MHp, mX16_counts h m (some p) (some (m + 19)) = some h1 ∧ Rs m h h1 ∧ Rc m (vs (aB A) (pI1 (aP A k))) (vs (aB A) (pI2 (aP A k))) h1 ∧ (∀ cl : Nat, cl < vs (aB A) (pI1 (aP A k)) * vs (aB A) (pI2 (aP A k)) → hAI h1 (m + 19) cl = Int32.ofInt (cnI A k cl)) ∧ ∀ cl : Nat, cl < vs (aB A) (pI1 (aP A k)) * vs (aB A) (pI2 (aP A k)) → hAI h1 (m + 19) cl = cnC A k cl := by
  have WPk := W.2.2.2.2.2.1 k hk
  obtain ⟨h1, e, S, z45, z46, zc, -⟩ := q_counts Q P W (Or.inl rfl) hk
  have n60 := gdB_60 g
  exact ⟨h1, e, S, ⟨S.QL Q.1.1, z45, z46, vs_le W.1 WPk.2.1, vs_le W.1 WPk.2.2.1, n60⟩, fun cl hcl => by rw [zc cl hcl, cnC_I], zc⟩
theorem gf_pos {A : AS} (W : WA A) {k : Nat} (hk : k < aN A 1) : 0 < bF (aB A) := Nat.pos_of_ne_zero (fun e => by have := (W.2.2.2.2.2.2.1 e).1; omega)
theorem x_edge {c m : Nat} {h : MHp} {A : AS} (C : CR c h A) (W : WA A) (t i j : Int32) (o : Int64) (md : Bool) : XS c m h A (mX11_edge h c t i j o (mi md)) (fun h1 => mX16_edge h1 m t i j o (mi md)) := by
  have L := C.l
  have h8 := W.2.2.1
  by_cases hc : isC A t i j
  · obtain ⟨k, u, v, hk, hu, hv, rfl, rfl, rfl⟩ := hc
    have e1 := p_hasCell1 C W hk hu hv
    have e2 := p_hasGuarded C W hk
    have WPk := W.2.2.2.2.2.1 k hk
    have b0 := gf_pos W hk
    have bd := bad_n (k := k) (n := 9) (by omega) (by omega)
    have bk := bad_n (k := k) (n := 8) (by omega) (by omega)
    have clk : (Int32.ofNat k).toNatClampNeg = k := cl_of (by omega)
    obtain ⟨c1, c2, c3, -, -⟩ := C.plan W hk
    by_cases g : gdB (aB A) (aP A k) = true
    · rw [if_pos g] at e2
      have n60 := gdB_60 g
      have hcell := cell_lt hu hv
      have e3 := p_cellAt (u := u) (v := v) c1 c3
      have e4 : mX11_troubleOfEdge h (some (c + 120 + 7 * k)) (Int32.ofNat (u * vs (aB A) (pI2 (aP A k)) + v)) o = some (if bL o (u * vs (aB A) (pI2 (aP A k)) + v) = true then (if btB o (vs (aB A) (pI1 (aP A k)) * vs (aB A) (pI2 (aP A k))) = true then 0 else 2) else 5) := by
        rw [mX11_troubleOfEdge, p_left _ (by omega), o_bind]
        by_cases g1 : bL o (u * vs (aB A) (pI2 (aP A k)) + v) = true
        · rw [if_pos g1, if_neg n10, if_pos g1, b_rcv, if_pos c1.1, p_hasBits c1 c3 n60, o_bind]
          by_cases g2 : btB o (vs (aB A) (pI1 (aP A k)) * vs (aB A) (pI2 (aP A k))) = true
          · rw [if_pos g2, if_neg n10, if_pos g2]
          · rw [if_neg g2, if_pos rfl, if_neg g2]
        · rw [if_neg g1, if_pos rfl, if_neg g1]
      have base : mX11_edge h c (Int32.ofNat k) (Int32.ofNat u) (Int32.ofNat v) o (mi md) = mX11_edge_b49 h c (Int32.ofNat k) (Int32.ofNat u) (Int32.ofNat v) o (mi md) (some c) (if bL o (u * vs (aB A) (pI2 (aP A k)) + v) = true then (if btB o (vs (aB A) (pI1 (aP A k)) * vs (aB A) (pI2 (aP A k))) = true then 0 else 2) else 5) := by
        rw [mX11_edge, b_rcv, if_pos (lK0 L), e1, o_bind, if_neg n10, b_rcv, if_pos (lK0 L), e2, o_bind, if_neg n10, b_gR, if_pos (lK0 L), lR0_3 L, b_gAR, if_pos (lK119 L), lN119 L, if_neg bd, clk, c2, b_gR, if_pos (lK0 L), lR0_3 L, b_gAR, if_pos (lK119 L), lN119 L, if_neg bd, clk, c2, b_rcv, if_pos c1.1, e3, o_bind, e4, o_bind]
      have rbase : ∀ h1 : MHp, RR m h1 A → ∃ h4 : MHp, Rs m (sI h1 m 0 0) h4 ∧ Rc m (vs (aB A) (pI1 (aP A k))) (vs (aB A) (pI2 (aP A k))) h4 ∧ (∀ cl : Nat, cl < vs (aB A) (pI1 (aP A k)) * vs (aB A) (pI2 (aP A k)) → hAI h4 (m + 19) cl = Int32.ofInt (cnI A k cl)) ∧ mX16_edge h1 m (Int32.ofNat k) (Int32.ofNat u) (Int32.ofNat v) o (mi md) = (if bL o (u * vs (aB A) (pI2 (aP A k)) + v) = true then (if btB o (vs (aB A) (pI1 (aP A k)) * vs (aB A) (pI2 (aP A k))) = true then (if mi md = 0 then (rcv 17 h4 (some m)).bind fun b20 => (mX16_lowOf h4 b20 o (Int32.ofNat (u * vs (aB A) (pI2 (aP A k)) + v))).bind fun r19 => mX16_edge_b120 r19.2 (some m) r19.1 else (rcv 17 h4 (some m)).bind fun b22 => (mX16_highOf h4 b22 o (Int32.ofNat (u * vs (aB A) (pI2 (aP A k)) + v))).bind fun r21 => mX16_edge_b120 r21.2 (some m) r21.1) else some (-1, rtb m h4 2)) else some (-1, rtb m h4 5)) := by
        intro h1 R
        have R2 := R.th 0
        have M := R2.1.1
        have f1 := q_isCell1 R2 W hk hu hv
        obtain ⟨b, Q⟩ := R2.rq W b0
        obtain ⟨p, q1, q2, -, -⟩ := R2.2.2.2.2.2 k hk
        have f2 := q_isByTwo Q q2 WPk
        rw [if_pos g] at f2
        obtain ⟨h4, f3, S4, G4, zi, -⟩ := r_open Q q2 W hk g
        have M4 := G4.1
        have K4 := qK0 M4
        refine ⟨h4, S4, G4, zi, ?_⟩
        have ec : Int32.ofNat (vs (aB A) (pI2 (aP A k))) * Int32.ofNat u + Int32.ofNat v = Int32.ofNat (u * vs (aB A) (pI2 (aP A k)) + v) := by
          rw [← Int32.ofNat_mul, ← Int32.ofNat_add, Nat.mul_comm]
        rw [mX16_edge, b_pI, if_pos (qK0 R.1.1), b_rcv, if_pos (qK0 M), f1, o_bind, if_neg n10, b_gR, if_pos (qK0 M), qR6 M, b_gAR, if_pos (qK1 M), qN1 M, if_neg bk, clk, q1, b_rcv, if_pos (qK0 M), f2, o_bind, if_neg n10, b_gR, if_pos (qK0 M), qR6 M, b_gAR, if_pos (qK1 M), qN1 M, if_neg bk, clk, q1, b_gR, if_pos (qK0 M), qR42 M, b_rcv, if_pos (qK0 M), f3, o_bind, b_gI, if_pos K4, G4.2.2.1, ec, q_has _ (by omega), o_bind]
        by_cases g1 : bL o (u * vs (aB A) (pI2 (aP A k)) + v) = true
        · rw [if_pos g1, if_neg n10, if_pos g1, b_rcv, if_pos K4, q_areBits G4, o_bind]
          by_cases g2 : btB o (vs (aB A) (pI1 (aP A k)) * vs (aB A) (pI2 (aP A k))) = true
          · rw [if_pos g2, if_neg n10, if_pos g2]
          · rw [if_neg g2, if_pos rfl, if_neg g2, b_rcv, if_pos K4, q_refused M4 2, o_bind]
        · rw [if_neg g1, if_pos rfl, if_neg g1, b_rcv, if_pos K4, q_refused M4 5, o_bind]
      by_cases g1 : bL o (u * vs (aB A) (pI2 (aP A k)) + v) = true
      · by_cases g2 : btB o (vs (aB A) (pI1 (aP A k)) * vs (aB A) (pI2 (aP A k))) = true
        · have C2 : CR c (sI h c 15 0) (tb A 0) := C.tb (by decide)
          have W2 : WA (tb A 0) := W.tb
          have L2 := C2.l
          have K2 := lK0 L2
          have e5 := p_hasTable1 C2 W2 hk
          obtain ⟨p1, p2, p3, -, -⟩ := C2.plan W2 hk
          obtain ⟨h3, e6, S3, G3, zi, -⟩ := c_open C2 W2 hk g
          have C3 := C2.sc W2 S3
          have L3 := C3.l
          obtain ⟨d1, d2, d3, -, -⟩ := C3.plan W2 hk
          have e7 := p_cellAt (u := u) (v := v) d1 d3
          obtain ⟨h4, v1, e8, S4, B1⟩ := p_edgeOf (out := o) md G3 hu hv zi (cnI_60 W2 hk) g1
          refine ⟨Int32.ofInt v1, tb A 0, W2, ⟨h4, ?_, C3.sc W2 S4.1, ((Oc.I0 15 0).tr S3.oc).tr S4.1.oc⟩, fun h1 R => ?_⟩
          · have e7' : mX7_cellAt h3 (c + 120 + 7 * k) (Int32.ofNat u) (Int32.ofNat v) = some (Int32.ofNat (u * vs (aB A) (pI2 (aP A k)) + v)) := e7
            have e8' : mX3_edgeOf h3 (c + 200) (Int32.ofNat (u * vs (aB A) (pI2 (aP A k)) + v)) o (mi md) = some (Int32.ofInt v1, h4) := e8
            rw [base, if_pos g1, if_pos g2, mX11_edge_b49, b_pI, if_pos (lK0 L), b_gI, if_pos K2, e_Iself, if_pos (show (0 : Int32) = 0 from rfl), b_rcv, if_pos K2, e5, o_bind, if_neg n10, b_gR, if_pos K2, lR0_10 L2, b_gR, if_pos K2, lR0_3 L2, b_gAR, if_pos (lK119 L2), lN119 L2, if_neg bd, clk, p2, b_rcv, if_pos (lK200 L2), e6, o_bind, b_gR, if_pos (lK0 L3), lR0_10 L3, b_gR, if_pos (lK0 L3), lR0_3 L3, b_gAR, if_pos (lK119 L3), lN119 L3, if_neg bd, clk, d2, b_rcv, if_pos d1.1, e7', o_bind, b_rcv, if_pos (lK200 L3), e8', o_bind]
          · obtain ⟨h5, S5, G5, zr, f0⟩ := rbase h1 R
            have R5 := (R.th 0).sc S5
            have K5 := qK0 G5.1
            have x0n : ∀ cl : Nat, cl < vs (aB A) (pI1 (aP A k)) * vs (aB A) (pI2 (aP A k)) → 0 ≤ cnI A k cl := fun cl _ => cnI_0 A k cl
            have B1' : Best (vs (aB A) (pI1 (aP A k))) (vs (aB A) (pI2 (aP A k))) (bL o) (cnI A k) (u * vs (aB A) (pI2 (aP A k)) + v) md v1 := B1
            cases md with
            | true =>
              obtain ⟨h6, v2, f1, S6, B2⟩ := q_highOf (out := o) G5 hu hv zr x0n (cnI_60 W hk) g1
              have R6 := R5.sc S6.1
              have ev := B1'.un B2
              refine ⟨rtb m h6 0, ?_, R6.tb (by decide), (((Om.th 0).tr S5.om).tr S6.1.om).tr Om.tb⟩
              show mX16_edge h1 m (Int32.ofNat k) (Int32.ofNat u) (Int32.ofNat v) o (mi true) = _
              rw [f0, if_pos g1, if_pos g2, if_neg (show ¬ mi true = 0 by decide), b_rcv, if_pos K5, f1, o_bind, mX16_edge_b120, b_rcv, if_pos (qK0 R6.1.1), q_done R6.1.1, o_bind, ev]
            | false =>
              obtain ⟨h6, v2, f1, S6, B2⟩ := q_lowOf (out := o) G5 hu hv zr x0n (cnI_60 W hk) g1
              have R6 := R5.sc S6.1
              have ev := B1'.un B2
              refine ⟨rtb m h6 0, ?_, R6.tb (by decide), (((Om.th 0).tr S5.om).tr S6.1.om).tr Om.tb⟩
              show mX16_edge h1 m (Int32.ofNat k) (Int32.ofNat u) (Int32.ofNat v) o (mi false) = _
              rw [f0, if_pos g1, if_pos g2, if_pos (show mi false = 0 from rfl), b_rcv, if_pos K5, f1, o_bind, mX16_edge_b120, b_rcv, if_pos (qK0 R6.1.1), q_done R6.1.1, o_bind, ev]
        · refine XS.no (v := -1) 2 (by decide) C W (fun _ _ => Or.inr trivial) ?_ (fun h1 R => ?_)
          · rw [base, if_pos g1, if_neg g2, edg_b L _ _ _ _ _ 2 n20]
          · obtain ⟨h5, S5, G5, zr, f0⟩ := rbase h1 R
            refine ⟨h5, (Rs.I 0 0 (by decide)).tr S5, ?_⟩
            show mX16_edge h1 m (Int32.ofNat k) (Int32.ofNat u) (Int32.ofNat v) o (mi md) = _
            rw [f0, if_pos g1, if_neg g2]
      · refine XS.no (v := -1) 5 (by decide) C W (fun _ _ => Or.inr trivial) ?_ (fun h1 R => ?_)
        · rw [base, if_neg g1, edg_b L _ _ _ _ _ 5 n50]
        · obtain ⟨h5, S5, G5, zr, f0⟩ := rbase h1 R
          refine ⟨h5, (Rs.I 0 0 (by decide)).tr S5, ?_⟩
          show mX16_edge h1 m (Int32.ofNat k) (Int32.ofNat u) (Int32.ofNat v) o (mi md) = _
          rw [f0, if_neg g1]
    · rw [if_neg g] at e2
      refine XS.no (v := -1) 5 (by decide) C W (fun _ _ => Or.inr trivial) ?_ (fun h1 R => ⟨sI h1 m 0 0, Rs.I 0 0 (by decide), ?_⟩)
      · rw [mX11_edge, b_rcv, if_pos (lK0 L), e1, o_bind, if_neg n10, b_rcv, if_pos (lK0 L), e2, o_bind, if_pos rfl, edg_b L _ _ _ _ _ 5 n50]
      · have R2 := R.th 0
        have M := R2.1.1
        have f1 := q_isCell1 R2 W hk hu hv
        obtain ⟨b, Q⟩ := R2.rq W b0
        obtain ⟨p, q1, q2, -, -⟩ := R2.2.2.2.2.2 k hk
        have f2 := q_isByTwo Q q2 WPk
        rw [if_neg g] at f2
        show mX16_edge h1 m (Int32.ofNat k) (Int32.ofNat u) (Int32.ofNat v) o (mi md) = _
        rw [mX16_edge, b_pI, if_pos (qK0 R.1.1), b_rcv, if_pos (qK0 M), f1, o_bind, if_neg n10, b_gR, if_pos (qK0 M), qR6 M, b_gAR, if_pos (qK1 M), qN1 M, if_neg bk, clk, q1, b_rcv, if_pos (qK0 M), f2, o_bind, if_pos rfl, b_rcv, if_pos (qK0 M), q_refused M 5, o_bind]
  · have e1 := p_hasCell0 C W hc
    refine XS.no (v := -1) 1 (by decide) C W (fun _ _ => Or.inr trivial) ?_ (fun h1 R => ⟨sI h1 m 0 0, Rs.I 0 0 (by decide), ?_⟩)
    · rw [mX11_edge, b_rcv, if_pos (lK0 L), e1, o_bind, if_pos rfl, edg_b L _ _ _ _ _ 1 n10]
    · have R2 := R.th 0
      have M := R2.1.1
      have f1 := q_isCell0 R2 W hc
      show mX16_edge h1 m t i j o (mi md) = _
      rw [mX16_edge, b_pI, if_pos (qK0 R.1.1), b_rcv, if_pos (qK0 M), f1, o_bind, if_pos rfl, b_rcv, if_pos (qK0 M), q_refused M 1, o_bind]

/-! agreed: the class's fraction -/
def nB : Nat → Nat × Nat
  | 0 => (0, 1)
  | v + 1 => ((nB v).1 * 5940 + 53460 * 1000000 * (nB v).2, (nB v).2 * 5940)
def Bd (v : Nat) (x : Nat × Nat) : Prop := x.1 ≤ (nB v).1 ∧ x.2 ≤ (nB v).2 ∧ 0 < x.2
theorem nB_3 {v : Nat} (h : v ≤ 3) : (nB v).1 < 2 ^ 63 ∧ (nB v).2 < 2 ^ 63 := by
  have : v = 0 ∨ v = 1 ∨ v = 2 ∨ v = 3 := by omega
  rcases this with rfl | rfl | rfl | rfl <;> decide
theorem Bd.st {v a o k : Nat} {x : Nat × Nat} (ha : a ≤ 5940) (ho : o ≤ 53460) (hk : k ≤ 1000000) (h : Bd v x) : Bd (v + 1) (fpN a o k x) := fpN_b ha ho hk h.1 h.2.1 h.2.2
def fpI (a o k : Nat → Nat) : Nat → Nat → Nat × Nat → Nat × Nat
  | 0, _, x => x
  | q + 1, v, x => fpI a o k q (v + 1) (fpN (a v) (o v) (k v) x)
theorem fpI_0 (a o k : Nat → Nat) (v : Nat) (x : Nat × Nat) : fpI a o k 0 v x = x := (rfl)
theorem fpI_s (a o k : Nat → Nat) (q v : Nat) (x : Nat × Nat) : fpI a o k (q + 1) v x = fpI a o k q (v + 1) (fpN (a v) (o v) (k v) x) := (rfl)
theorem c_rk {c v a o k : Nat} {x : Nat × Nat} {h : MHp} (L : CL c h) (hv : v < 3) (ha : hAL h (c + 196) v = Int64.ofNat a) (ho : hAL h (c + 197) v = Int64.ofNat o) (hk : hAI h (c + 195) v = Int32.ofNat k) (hn : hL h (c + 194) 2 = Int64.ofNat (lwN x.1 x.2)) (hd : hL h (c + 194) 3 = Int64.ofNat (lwD x.1 x.2)) (ba : a ≤ 5940) (bo : o ≤ 53460) (bk : k ≤ 1000000) (B : Bd v x) : ∃ h1 : MHp, (∀ fu : Nat, mX0_reckon_l18 (fu + 1) h (c + 194) (Int32.ofNat v) = mX0_reckon_l18 fu h1 (c + 194) (Int32.ofNat (v + 1))) ∧ Sc c h h1 ∧ hAL h1 = hAL h ∧ hAI h1 = hAI h ∧ hL h1 (c + 194) 2 = Int64.ofNat (lwN (fpN a o k x).1 (fpN a o k x).2) ∧ hL h1 (c + 194) 3 = Int64.ofNat (lwD (fpN a o k x).1 (fpN a o k x).2) := by
  have c3 : ¬ Int32.ofNat 3 ≤ Int32.ofNat v := by rw [le_of (by omega) (by omega)]; omega
  have bv := bad_n (k := v) (n := 3) (by omega) (by omega)
  have clv : (Int32.ofNat v).toNatClampNeg = v := cl_of (by omega)
  have z1 := l_n (a := a) (by omega)
  have K := lK194 L
  by_cases g : a = 0
  · refine ⟨h, fun fu => ?_, Sc.rf, rfl, rfl, ?_, ?_⟩
    · rw [mX0_reckon_l18, b_gR, if_pos K, lR194_4 L, b_gN, if_pos (lK195 L), lN195 L, if_neg c3, b_gR, if_pos K, lR194_5 L, b_gAL, if_pos (lK196 L), lN196 L, if_neg bv, clv, ha, if_pos (show lg_cmp (Int64.ofNat a) 0 ≤ 0 by rw [z1]; exact g), mX0_reckon_b62, s1_of]
    · rw [hn]; unfold fpN; rw [if_pos g]
    · rw [hd]; unfold fpN; rw [if_pos g]
  · have l1 := lw_le x.1 x.2
    have T1 : lwN x.1 x.2 * a + o * k * lwD x.1 x.2 < 2 ^ 63 := by
      have := (nB_3 (v := v + 1) (by omega)).1
      refine Nat.lt_of_le_of_lt ?_ this
      exact Nat.add_le_add (Nat.mul_le_mul (Nat.le_trans l1.1 B.1) ba) (Nat.mul_le_mul (Nat.mul_le_mul bo bk) (Nat.le_trans l1.2 B.2.1))
    have T2 : lwD x.1 x.2 * a < 2 ^ 63 := by
      have := (nB_3 (v := v + 1) (by omega)).2
      refine Nat.lt_of_le_of_lt ?_ this
      exact Nat.mul_le_mul (Nat.le_trans l1.2 B.2.1) ba
    have T3 : 0 < lwD x.1 x.2 * a := Nat.mul_pos (lw_pos B.2.2) (by omega)
    obtain ⟨s1, s2⟩ := lw_st (n := x.1) (d := x.2) (a := a) (p := o * k) B.2.2
    have G1 : 0 < Nat.gcd (lwN x.1 x.2 * a + o * k * lwD x.1 x.2) (lwD x.1 x.2 * a) := Nat.gcd_pos_of_pos_right _ T3
    have G2 : Nat.gcd (lwN x.1 x.2 * a + o * k * lwD x.1 x.2) (lwD x.1 x.2 * a) ≤ lwD x.1 x.2 * a := Nat.le_of_dvd T3 (Nat.gcd_dvd_right _ _)
    have e1 := p_gcd (h := h) T1 T2
    have z2 : ¬ lg_cmp (Int64.ofNat (Nat.gcd (lwN x.1 x.2 * a + o * k * lwD x.1 x.2) (lwD x.1 x.2 * a))) 0 ≤ 0 := by
      rw [l_n (by omega)]; omega
    have z3 := l_nz (a := Nat.gcd (lwN x.1 x.2 * a + o * k * lwD x.1 x.2) (lwD x.1 x.2 * a)) (by omega) (by omega)
    have d1 := l_div (a := lwN x.1 x.2 * a + o * k * lwD x.1 x.2) (b := Nat.gcd (lwN x.1 x.2 * a + o * k * lwD x.1 x.2) (lwD x.1 x.2 * a)) T1 (by omega)
    have d2 := l_div (a := lwD x.1 x.2 * a) (b := Nat.gcd (lwN x.1 x.2 * a + o * k * lwD x.1 x.2) (lwD x.1 x.2 * a)) T2 (by omega)
    have add : mX0_add h (c + 194) (Int64.ofNat o * (Int32.ofNat k).toInt64) (Int64.ofNat a) = some (sL (sL h (c + 194) 2 (Int64.ofNat (lwN (lwN x.1 x.2 * a + o * k * lwD x.1 x.2) (lwD x.1 x.2 * a)))) (c + 194) 3 (Int64.ofNat (lwD (lwN x.1 x.2 * a + o * k * lwD x.1 x.2) (lwD x.1 x.2 * a)))) := by
      rw [mX0_add, b_gL, if_pos K, hn, b_gL, if_pos K, hd, b_gL, if_pos K, hd, l_i (by omega), l_mul, l_mul, l_mul, l_add, l_mul, e1, o_bind, if_neg z2, z3, o_bind, d1, b_pL, if_pos K, o_bind, d2, b_pL, if_pos (show hK (sL h (c + 194) 2 _) (c + 194) = 1 from K)]
      rfl
    refine ⟨sL (sL h (c + 194) 2 (Int64.ofNat (lwN (lwN x.1 x.2 * a + o * k * lwD x.1 x.2) (lwD x.1 x.2 * a)))) (c + 194) 3 (Int64.ofNat (lwD (lwN x.1 x.2 * a + o * k * lwD x.1 x.2) (lwD x.1 x.2 * a))), fun fu => ?_, (Sc.L 2 _).tr (Sc.L 3 _), rfl, rfl, ?_, ?_⟩
    · rw [mX0_reckon_l18, b_gR, if_pos K, lR194_4 L, b_gN, if_pos (lK195 L), lN195 L, if_neg c3, b_gR, if_pos K, lR194_5 L, b_gAL, if_pos (lK196 L), lN196 L, if_neg bv, clv, ha, if_neg (show ¬ lg_cmp (Int64.ofNat a) 0 ≤ 0 by rw [z1]; exact g), b_gR, if_pos K, lR194_6 L, b_gAL, if_pos (lK197 L), lN197 L, if_neg bv, clv, ho, b_gR, if_pos K, lR194_4 L, b_gAI, if_pos (lK195 L), lN195 L, if_neg bv, clv, hk, b_gR, if_pos K, lR194_5 L, b_gAL, if_pos (lK196 L), lN196 L, if_neg bv, clv, ha, b_rcv, if_pos K, add, o_bind, mX0_reckon_b62, s1_of]
    · rw [e_sL, if_neg (by omega), e_sL, if_pos ⟨rfl, rfl⟩, s1]
      unfold fpN; rw [if_neg g]
    · rw [e_sL, if_pos ⟨rfl, rfl⟩, s2]
      unfold fpN; rw [if_neg g]
theorem p_reckon {c k f i j : Nat} {h : MHp} {A : AS} {a o kk : Nat → Nat} (C : CR c h A) (W : WA A) (hk : k < aN A 1) (hf : f < bF (aB A)) (e5 : aS A 5 = Int32.ofNat f) (ht : bT (aB A) f ≤ 2) (hi : i < vs (aB A) (pI1 (aP A k))) (hj : j < vs (aB A) (pI2 (aP A k))) (N : ∀ u : Nat, u < 3 → sumF (agQ A f u) (agW A) (aN A 2) 0 0 = Int64.ofNat (a u) ∧ a u ≤ 5940 ∧ sumF (agP A (aP A k) (Int32.ofNat i) (Int32.ofNat j) f u) (fun r => wtA A (aP A k) r (aS A 3) 0) (aN A 2) 0 0 = Int64.ofNat (o u) ∧ o u ≤ 53460 ∧ aA A 10 u = Int32.ofNat (kk u) ∧ kk u ≤ 1000000) : ∃ h' : MHp, mX0_reckon h (c + 194) (some (c + 120 + 7 * k)) (Int32.ofNat (i * vs (aB A) (pI2 (aP A k)) + j)) = some h' ∧ Sc c h h' ∧ hL h' (c + 194) 2 = Int64.ofNat (lwN (fpI a o kk 3 0 (0, 1)).1 (fpI a o kk 3 0 (0, 1)).2) ∧ hL h' (c + 194) 3 = Int64.ofNat (lwD (fpI a o kk 3 0 (0, 1)).1 (fpI a o kk 3 0 (0, 1)).2) := by
  have L := C.l
  obtain ⟨h2, e2, S2, b1⟩ := p_sumWeights C W hk hf e5 ht hi hj
  have C2 := C.sc W S2
  have L2 := C2.l
  obtain ⟨X, hX⟩ : ∃ X : MHp, X = sL (sL h2 (c + 194) 2 0) (c + 194) 3 1 := ⟨_, rfl⟩
  have SX : Sc c h2 X := by rw [hX]; exact (Sc.L 2 _).tr (Sc.L 3 _)
  have LX : CL c X := SX.CL L2
  have x95 : ∀ u : Nat, u < 3 → hAI X (c + 195) u = Int32.ofNat (kk u) := fun u hu => by
    rw [hX]
    show hAI h2 (c + 195) u = _
    rw [C2.2.2.2.2.1 (by rw [e5]; exact nm_of (by have := W.1.1; omega)) u hu]
    exact (N u hu).2.2.2.2.1
  have xa : ∀ u : Nat, u < 3 → hAL X (c + 196) u = Int64.ofNat (a u) ∧ hAL X (c + 197) u = Int64.ofNat (o u) := fun u hu => by
    rw [hX]
    show hAL h2 (c + 196) u = _ ∧ hAL h2 (c + 197) u = _
    rw [(b1 u hu).1, (b1 u hu).2]
    exact ⟨(N u hu).1, (N u hu).2.2.1⟩
  have n2 : hL X (c + 194) 2 = Int64.ofNat (lwN 0 1) := by rw [hX, e_sL, if_neg (by omega), e_sL, if_pos ⟨rfl, rfl⟩, lw_01.1]; rfl
  have n3 : hL X (c + 194) 3 = Int64.ofNat (lwD 0 1) := by rw [hX, e_sL, if_pos ⟨rfl, rfl⟩, lw_01.2]; rfl
  have B0 : Bd 0 (0, 1) := ⟨Nat.le_refl _, Nat.le_refl _, Nat.one_pos⟩
  obtain ⟨y1, w1, S3, t1, t2, t3, t4⟩ := c_rk (x := (0, 1)) LX (show 0 < 3 by omega) (xa 0 (by omega)).1 (xa 0 (by omega)).2 (x95 0 (by omega)) n2 n3 (N 0 (by omega)).2.1 (N 0 (by omega)).2.2.2.1 (N 0 (by omega)).2.2.2.2.2 B0
  have B1 := B0.st (N 0 (by omega)).2.1 (N 0 (by omega)).2.2.2.1 (N 0 (by omega)).2.2.2.2.2
  have L3 := S3.CL LX
  obtain ⟨y2, w2, S4, u1, u2, u3, u4⟩ := c_rk L3 (show 1 < 3 by omega) (by rw [t1]; exact (xa 1 (by omega)).1) (by rw [t1]; exact (xa 1 (by omega)).2) (by rw [t2]; exact x95 1 (by omega)) t3 t4 (N 1 (by omega)).2.1 (N 1 (by omega)).2.2.2.1 (N 1 (by omega)).2.2.2.2.2 B1
  have B2 := B1.st (N 1 (by omega)).2.1 (N 1 (by omega)).2.2.2.1 (N 1 (by omega)).2.2.2.2.2
  have L4 := S4.CL L3
  obtain ⟨y3, w3, S5, v1, v2, v3, v4⟩ := c_rk L4 (show 2 < 3 by omega) (by rw [u1, t1]; exact (xa 2 (by omega)).1) (by rw [u1, t1]; exact (xa 2 (by omega)).2) (by rw [u2, t2]; exact x95 2 (by omega)) u3 u4 (N 2 (by omega)).2.1 (N 2 (by omega)).2.2.2.1 (N 2 (by omega)).2.2.2.2.2 B2
  have L5 := S5.CL L4
  have c3 : Int32.ofNat 3 ≤ Int32.ofNat (2 + 1) := by decide
  obtain ⟨n, hn⟩ : ∃ n : Nat, FUEL = n + 1 + 1 + 1 + 1 := ⟨FUEL - 4, by unfold FUEL; omega⟩
  refine ⟨y3, ?_, (((S2.tr SX).tr S3).tr S4).tr S5, v3, v4⟩
  rw [mX0_reckon, b_rcv, if_pos (lK194 L), e2, o_bind, b_pL, if_pos (lK194 L2), b_pL, if_pos (show hK (sL h2 (c + 194) 2 0) (c + 194) = 1 from lK194 L2), ← hX, hn, show (0 : Int32) = Int32.ofNat 0 from rfl, w1, w2, w3, mX0_reckon_l18, b_gR, if_pos (lK194 L5), lR194_4 L5, b_gN, if_pos (lK195 L5), lN195 L5, if_pos c3]
/-! agreed: the reference -/
theorem q_ag {m b k f v r p : Nat} {i j : Int32} {h : MHp} {A : AS} (R : RR m h A) (Q : RQ m b (aN A 2) h A) (W : WA A) (P : RP (m + 26) h p (aP A k)) (hk : k < aN A 1) (hf : f < bF (aB A)) (e5 : aS A 5 = Int32.ofNat f) (hv : v < 3) (hr : r < aN A 2) : ∃ h1 : MHp, (∀ (fu : Nat) (k52 : MHp → Nat → Int32 → Int32 → Int32 → Option Nat → Int64 → Int64 → Int32 → Option (Int64 × MHp)) (dn : Int32) (top low mine all : Int64), mX16_agreed_l78 k52 (fu + 1) h m i j dn (some p) top low (Int32.ofNat v) mine all (Int32.ofNat r) = mX16_agreed_l78 k52 fu h1 m i j dn (some p) top low (Int32.ofNat v) (if agP A (aP A k) i j f v r = true then mine + wtA A (aP A k) r (aS A 3) 0 else mine) (if agQ A f v r = true then all + agW A r else all) (Int32.ofNat (r + 1))) ∧ Rs m h h1 := by
  have L := Q.1.1
  have K := qK0 L
  have h60 := W.2.2.2.1
  have hB := W.1.1
  have WPk := W.2.2.2.2.2.1 k hk
  have e1 := Q.2.2.2.2.1
  have td := Q.2.2.2.2.2.2.1
  have e2 : ¬ Int32.ofNat (aN A 2) ≤ Int32.ofNat r := by rw [le_of (by omega) (by omega)]; omega
  obtain ⟨h2, f1, ⟨S, i0⟩, f2⟩ := q_isIn (i := i) (j := j) Q hr (show 0 < 5 by omega) (aS A 3) P WPk
  have f1 : mX16_isIn h m (some p) (Int32.ofNat r) i j (aS A 3) 0 = some (if (okA A r (aS A 3) 0 && inP (aP A k) (vX A r (aS A 3) 0) i j) = true then 1 else 0, h2) := f1
  have Q2 := Q.sc S
  have L2 := Q2.1.1
  have K2 := qK0 L2
  have td2 : hI h2 m 19 = aS A 3 := Q2.2.2.2.2.2.2.1
  have e3 := q_isThere Q2.1 Q2.2.2.2.2.2.1 hr (aS A 3)
  by_cases g1 : thA A r (aS A 3) = true
  · rw [if_pos g1] at e3
    have e4 := q_loads Q2 hr (show 0 < 5 by omega) (aS A 3) (k := 13) (Or.inl rfl)
    obtain ⟨h3, hh3⟩ : ∃ h3 : MHp, h3 = sAI h2 (m + 13) (rD A r (aS A 3) 0 (hAI h2 (m + 13))) := ⟨_, rfl⟩
    have e4 : mX16_loads h2 m (Int32.ofNat r) (aS A 3) 0 (some (m + 13)) = some h3 := by rw [hh3]; exact e4
    have S3 : Rs m h2 h3 := by rw [hh3]; exact Rs.AI 13 _ (by decide)
    have Q3 := Q2.sc S3
    have L3 := Q3.1.1
    have K3 := qK0 L3
    have R3 := (R.sc S).sc S3
    have P3 : RP (m + 26) h3 p (aP A k) := (P.ag (S.out (Or.inr (by omega))) (by rw [S.2.2.2.2.1]; omega)).ag (S3.out (Or.inr (by omega))) (by rw [S3.2.2.2.2.1]; omega)
    have x34 : hI h3 m 34 = Int32.ofNat f := by rw [← e5]; exact R3.2.1.2.2.2.2.2.2.2.2.2.1
    have xv : hAI h3 (m + 13) = rD A r (aS A 3) 0 (hAI h2 (m + 13)) := by rw [hh3, e_sAI, if_pos rfl]
    have xe : ∀ y : Nat, y < bF (aB A) → hAI h3 (m + 13) y = vX A r (aS A 3) 0 y := fun y hy => by rw [xv]; simp only [rD, vX, if_pos hy]
    have bf := bad_n (k := f) (n := 6) (by omega) (by omega)
    have clf : (Int32.ofNat f).toNatClampNeg = f := cl_of (by omega)
    have br := bad_n (k := r) (n := 60) (by omega) (by omega)
    have clr : (Int32.ofNat r).toNatClampNeg = r := cl_of (by omega)
    have w5 : hAI h3 (m + 12) = aA A 5 := Q3.2.2.2.2.2.2.2
    have base : ∀ (fu : Nat) (k52 : MHp → Nat → Int32 → Int32 → Int32 → Option Nat → Int64 → Int64 → Int32 → Option (Int64 × MHp)) (dn : Int32) (top low mine all : Int64), vX A r (aS A 3) 0 f = Int32.ofNat v → mX16_agreed_l78 k52 (fu + 1) h m i j dn (some p) top low (Int32.ofNat v) mine all (Int32.ofNat r) = (mX12_broken h3 b (some (m + 13))).bind fun r20 => (if r20 = (-1) then (if (if (okA A r (aS A 3) 0 && inP (aP A k) (vX A r (aS A 3) 0) i j) = true then (1 : Int32) else 0) = 0 then mX16_agreed_b224 k52 (mX16_agreed_l78 k52 fu) h3 m i j dn (some p) top low (Int32.ofNat v) (all + (aA A 5 r).toInt64) (Int32.ofNat r) mine 0 else (gR 17 28 h3 (some m)).bind fun x24 => (gAI 20 h3 x24 (Int32.ofNat r)).bind fun x25 => (gI 15 0 h3 (some p)).bind fun x26 => (if x26 = (-1) then mX16_agreed_b218 k52 (mX16_agreed_l78 k52 fu) h3 m i j dn (some p) top low (Int32.ofNat v) (all + (aA A 5 r).toInt64) (Int32.ofNat r) mine x25.toInt64 1 else (gR 17 29 h3 (some m)).bind fun x27 => (gI 15 0 h3 (some p)).bind fun x28 => (gAI 20 h3 x27 x28).bind fun x29 => mX16_agreed_b218 k52 (mX16_agreed_l78 k52 fu) h3 m i j dn (some p) top low (Int32.ofNat v) (all + (aA A 5 r).toInt64) (Int32.ofNat r) mine x25.toInt64 x29)) else mX16_agreed_b227 k52 (mX16_agreed_l78 k52 fu) h3 m i j dn (some p) top low (Int32.ofNat v) mine all (Int32.ofNat r)) := by
      intro fu k52 dn top low mine all ev
      rw [mX16_agreed_l78, b_gI, if_pos K, e1, if_neg e2, b_gI, if_pos K, td, b_rcv, if_pos K, f1, o_bind, b_gI, if_pos K2, td2, b_rcv, if_pos K2, e3, o_bind, if_neg n10, b_gI, if_pos K2, td2, b_gR, if_pos K2, qR29 L2, b_rcv, if_pos K2, e4, o_bind, b_gR, if_pos K3, qR29 L3, b_gI, if_pos K3, x34, b_gAI, if_pos (qK13 L3), qN13 L3, if_neg bf, clf, xe f hf, if_pos ev, b_gR, if_pos K3, Q3.2.1, b_gR, if_pos K3, qR29 L3, b_rcv, if_pos Q3.2.2.1.1.1]
      congr 1
      funext r20
      by_cases z : r20 = -1
      · rw [if_pos z, if_pos z, b_gR, if_pos K3, qR28 L3, b_gAI, if_pos (qK12 L3), qN12 L3, if_neg br, clr, w5]
      · rw [if_neg z, if_neg z]
    by_cases ev : vX A r (aS A 3) 0 f = Int32.ofNat v
    · have e6 := q_brokenRow Q3 (k := m + 13) (qK13 L3) (qN13 L3)
      rw [xv, bB_rD W.1] at e6
      by_cases g2 : bB (aB A) (vX A r (aS A 3) 0) = bN (aB A)
      · have g3 : ¬ bB (aB A) (vX A r (aS A 3) 0) < bN (aB A) := by omega
        rw [if_neg g3] at e6
        have ok : okA A r (aS A 3) 0 = true := by simp [okA, g1, g2]
        have q1 : agQ A f v r = true := by simp [agQ, ok, ev]
        have p3 := P3.2.1
        have p1 := P3.1.1
        by_cases y : inP (aP A k) (vX A r (aS A 3) 0) i j = true
        · have q2 : agP A (aP A k) i j f v r = true := by simp [agP, q1, y]
          cases e : pS (aP A k) with
          | none =>
            have p3' : hI h3 p 0 = -1 := by rw [p3, e]; rfl
            have t1 : wtA A (aP A k) r (aS A 3) 0 = (aA A 5 r).toInt64 * (1 : Int32).toInt64 := by simp only [wtA, tmA, e]
            refine ⟨h3, fun fu k52 dn top low mine all => ?_, S.tr S3⟩
            rw [base fu k52 dn top low mine all ev, e6, o_bind, if_pos rfl, ok, y, Bool.true_and, if_pos (show true = true from rfl), if_neg n10, b_gR, if_pos K3, qR28 L3, b_gAI, if_pos (qK12 L3), qN12 L3, if_neg br, clr, w5, b_gI, if_pos p1, p3', if_pos (show (-1 : Int32) = -1 from rfl), mX16_agreed_b218, mX16_agreed_b224, mX16_agreed_b227, s1_of, if_pos q1, if_pos q2, t1]
            rfl
          | some f' =>
            have hf' := WPk.1 f' e
            obtain ⟨o1, o2⟩ := oi_m e (by omega)
            have bf' := bad_n (k := f') (n := 6) (by omega) (by omega)
            have clf' : (Int32.ofNat f').toNatClampNeg = f' := cl_of (by omega)
            have t1 : wtA A (aP A k) r (aS A 3) 0 = (aA A 5 r).toInt64 * (vX A r (aS A 3) 0 f').toInt64 := by simp only [wtA, tmA, e]
            refine ⟨h3, fun fu k52 dn top low mine all => ?_, S.tr S3⟩
            rw [base fu k52 dn top low mine all ev, e6, o_bind, if_pos rfl, ok, y, Bool.true_and, if_pos (show true = true from rfl), if_neg n10, b_gR, if_pos K3, qR28 L3, b_gAI, if_pos (qK12 L3), qN12 L3, if_neg br, clr, w5, b_gI, if_pos p1, p3, if_neg o2, b_gR, if_pos K3, qR29 L3, b_gI, if_pos p1, p3, o1, b_gAI, if_pos (qK13 L3), qN13 L3, if_neg bf', clf', xe f' hf', mX16_agreed_b218, mX16_agreed_b224, mX16_agreed_b227, s1_of, if_pos q1, if_pos q2, t1]
            rfl
        · have q2 : ¬ agP A (aP A k) i j f v r = true := by
            unfold agP
            rw [Bool.and_eq_true]
            exact fun hh => y hh.2
          have y2 : ¬ ((okA A r (aS A 3) 0 && inP (aP A k) (vX A r (aS A 3) 0) i j) = true) := by
            rw [Bool.and_eq_true]
            exact fun hh => y hh.2
          refine ⟨h3, fun fu k52 dn top low mine all => ?_, S.tr S3⟩
          rw [base fu k52 dn top low mine all ev, e6, o_bind, if_pos rfl, if_neg y2, if_pos rfl, mX16_agreed_b224, mX16_agreed_b227, s1_of, if_pos q1, if_neg q2, Int64.add_zero]
          rfl
      · have hb := bB_le (aB A) (vX A r (aS A 3) 0)
        have hb2 := W.1.2.1
        have g3 : bB (aB A) (vX A r (aS A 3) 0) < bN (aB A) := by omega
        rw [if_pos g3] at e6
        have q1 : ¬ agQ A f v r = true := by simp [agQ, okA, g2]
        have q2 : ¬ agP A (aP A k) i j f v r = true := by
          unfold agP
          rw [Bool.and_eq_true]
          exact fun hh => q1 hh.1
        refine ⟨h3, fun fu k52 dn top low mine all => ?_, S.tr S3⟩
        rw [base fu k52 dn top low mine all ev, e6, o_bind, if_neg (nm_of (by omega)), mX16_agreed_b227, s1_of, if_neg q1, if_neg q2]
    · have q1 : ¬ agQ A f v r = true := by simp [agQ, ev]
      have q2 : ¬ agP A (aP A k) i j f v r = true := by
        unfold agP
        rw [Bool.and_eq_true]
        exact fun hh => q1 hh.1
      refine ⟨h3, fun fu k52 dn top low mine all => ?_, S.tr S3⟩
      rw [mX16_agreed_l78, b_gI, if_pos K, e1, if_neg e2, b_gI, if_pos K, td, b_rcv, if_pos K, f1, o_bind, b_gI, if_pos K2, td2, b_rcv, if_pos K2, e3, o_bind, if_neg n10, b_gI, if_pos K2, td2, b_gR, if_pos K2, qR29 L2, b_rcv, if_pos K2, e4, o_bind, b_gR, if_pos K3, qR29 L3, b_gI, if_pos K3, x34, b_gAI, if_pos (qK13 L3), qN13 L3, if_neg bf, clf, xe f hf, if_neg ev, mX16_agreed_b227, s1_of, if_neg q1, if_neg q2]
  · rw [if_neg g1] at e3
    have q1 : ¬ agQ A f v r = true := by simp [agQ, okA, g1]
    have q2 : ¬ agP A (aP A k) i j f v r = true := by
      unfold agP
      rw [Bool.and_eq_true]
      exact fun hh => q1 hh.1
    refine ⟨h2, fun fu k52 dn top low mine all => ?_, S⟩
    rw [mX16_agreed_l78, b_gI, if_pos K, e1, if_neg e2, b_gI, if_pos K, td, b_rcv, if_pos K, f1, o_bind, b_gI, if_pos K2, td2, b_rcv, if_pos K2, e3, o_bind, if_pos rfl, mX16_agreed_b227, s1_of, if_neg q1, if_neg q2]
theorem q_agl {m b k f v p : Nat} {i j : Int32} {A : AS} (W : WA A) (hk : k < aN A 1) (hf : f < bF (aB A)) (e5 : aS A 5 = Int32.ofNat f) (hv : v < 3) : ∀ (q fu r : Nat) (h : MHp) (mine all : Int64), RR m h A → RQ m b (aN A 2) h A → RP (m + 26) h p (aP A k) → r + q = aN A 2 → q < fu → ∃ h1 : MHp, (∀ (k52 : MHp → Nat → Int32 → Int32 → Int32 → Option Nat → Int64 → Int64 → Int32 → Option (Int64 × MHp)) (dn : Int32) (top low : Int64), mX16_agreed_l78 k52 fu h m i j dn (some p) top low (Int32.ofNat v) mine all (Int32.ofNat r) = k52 h1 m i j dn (some p) (if sumF (agQ A f v) (agW A) q r all = 0 then top else top * sumF (agQ A f v) (agW A) q r all + sumF (agP A (aP A k) i j f v) (fun r => wtA A (aP A k) r (aS A 3) 0) q r mine * (aA A 10 v).toInt64 * low) (if sumF (agQ A f v) (agW A) q r all = 0 then low else low * sumF (agQ A f v) (agW A) q r all) (Int32.ofNat (v + 1))) ∧ Rs m h h1 := by
  intro q
  have h60 := W.2.2.2.1
  have h6 := W.1.1
  induction q with
  | zero =>
    intro fu r h mine all R Q P hr hf2
    obtain ⟨fu, rfl⟩ : ∃ g : Nat, fu = g + 1 := ⟨fu - 1, by omega⟩
    have L := Q.1.1
    have K := qK0 L
    have e1 := Q.2.2.2.2.1
    have e2 : Int32.ofNat (aN A 2) ≤ Int32.ofNat r := by rw [le_of (by omega) (by omega)]; omega
    have bv := bad_n (k := v) (n := 10) (by omega) (by omega)
    have clv : (Int32.ofNat v).toNatClampNeg = v := cl_of (by omega)
    have x17 := R.2.2.2.1 (by rw [e5]; exact nm_of (by omega)) v hv
    refine ⟨h, fun k52 dn top low => ?_, Rs.rf⟩
    rw [mX16_agreed_l78, b_gI, if_pos K, e1, if_pos e2, sumF_0, sumF_0]
    by_cases z : all = 0
    · rw [if_pos (show lg_cmp all 0 = 0 by rw [lg0]; exact z), if_pos z, if_pos z, mX16_agreed_b272, s1_of]
    · rw [if_neg (show ¬ lg_cmp all 0 = 0 by rw [lg0]; exact z), if_neg z, if_neg z, b_gR, if_pos K, qR35 L, b_gAI, if_pos (qK17 L), qN17 L, if_neg bv, clv, x17, mX16_agreed_b272, s1_of]
  | succ q ih =>
    intro fu r h mine all R Q P hr hf2
    obtain ⟨fu, rfl⟩ : ∃ g : Nat, fu = g + 1 := ⟨fu - 1, by omega⟩
    obtain ⟨h1, e1, S1⟩ := q_ag (i := i) (j := j) R Q W P hk hf e5 hv (show r < aN A 2 by omega)
    obtain ⟨h2, e2, S2⟩ := ih fu (r + 1) h1 (if agP A (aP A k) i j f v r = true then mine + wtA A (aP A k) r (aS A 3) 0 else mine) (if agQ A f v r = true then all + agW A r else all) (R.sc S1) (Q.sc S1) (P.ag (S1.out (Or.inr (by omega))) (by rw [S1.2.2.2.2.1]; omega)) (by omega) (by omega)
    refine ⟨h2, fun k52 dn top low => ?_, S1.tr S2⟩
    rw [e1, e2, sumF_s, sumF_s]

/-! of -/
def bc32 (a : Int32) : Int32 :=
  let y1 := a - ((a.toUInt32 >>> ((1 : Int32).toUInt32 &&& Int32.toUInt32 31)).toInt32 &&& 1431655765)
  let y2 := (y1 &&& 858993459) + ((y1.toUInt32 >>> ((2 : Int32).toUInt32 &&& Int32.toUInt32 31)).toInt32 &&& 858993459)
  let y3 := (y2 + (y2.toUInt32 >>> ((4 : Int32).toUInt32 &&& Int32.toUInt32 31)).toInt32) &&& 252645135
  let y4 := y3 + (y3.toUInt32 >>> ((8 : Int32).toUInt32 &&& Int32.toUInt32 31)).toInt32
  let y5 := y4 + (y4.toUInt32 >>> ((16 : Int32).toUInt32 &&& Int32.toUInt32 31)).toInt32
  y5 &&& 63
theorem j_bits (h : MHp) (a : Int32) : mJ6_bitCount_0f7a4 h a = some (bc32 a) := by
  unfold mJ6_bitCount_0f7a4
  rw [o_bind, o_bind, o_bind, o_bind, o_bind]
  rfl
theorem ms_congr {p q : Nat → Bool} : ∀ (n k : Nat) (a : Int32), (∀ j : Nat, k ≤ j → j < k + n → p j = q j) → ms p n k a = ms q n k a
  | 0, k, a, _ => rfl
  | n + 1, k, a, h => by
    rw [ms_s, ms_s, h k (by omega) (by omega), ms_congr n (k + 1) _ (fun j x y => h j (by omega) (by omega))]
theorem cntF_congr {p q : Nat → Bool} : ∀ (n k : Nat) (a : Int32), (∀ j : Nat, k ≤ j → j < k + n → p j = q j) → cntF p n k a = cntF q n k a
  | 0, k, a, _ => rfl
  | n + 1, k, a, h => by
    rw [cntF_s, cntF_s, h k (by omega) (by omega), cntF_congr n (k + 1) _ (fun j x y => h j (by omega) (by omega))]
def bl6 (b0 b1 b2 b3 b4 b5 : Bool) (j : Nat) : Bool := if j = 0 then b0 else if j = 1 then b1 else if j = 2 then b2 else if j = 3 then b3 else if j = 4 then b4 else b5
theorem bl6_p (p : Nat → Bool) {j : Nat} (hj : j < 6) : p j = bl6 (p 0) (p 1) (p 2) (p 3) (p 4) (p 5) j := by
  rcases (show j = 0 ∨ j = 1 ∨ j = 2 ∨ j = 3 ∨ j = 4 ∨ j = 5 by omega) with rfl | rfl | rfl | rfl | rfl | rfl <;> rfl
theorem bc_all : ∀ b0 b1 b2 b3 b4 b5 : Bool, ∀ n : Fin 7, bc32 (ms (bl6 b0 b1 b2 b3 b4 b5) n.val 0 0) = cntF (bl6 b0 b1 b2 b3 b4 b5) n.val 0 0 := by decide +kernel
theorem bc_ms (p : Nat → Bool) {n : Nat} (hn : n ≤ 6) : bc32 (ms p n 0 0) = cntF p n 0 0 := by
  rw [ms_congr (q := bl6 (p 0) (p 1) (p 2) (p 3) (p 4) (p 5)) n 0 0 (fun j _ hj => bl6_p p (by omega)), cntF_congr (q := bl6 (p 0) (p 1) (p 2) (p 3) (p 4) (p 5)) n 0 0 (fun j _ hj => bl6_p p (by omega))]
  exact bc_all _ _ _ _ _ _ ⟨n, by omega⟩
theorem q_gaps_l4 {m b n k : Nat} {h : MHp} {A : AS} (Q : RQ m b n h A) (hk : hK h k = 20) (hn : hN h k = 6) : ∀ (q fu i : Nat) (a : Int32), i + q = bF (aB A) → q < fu → mX16_gapsOf_l4 h fu m (some k) a (Int32.ofNat i) = some (cntF (gp (hAI h k)) q i a) := by
  intro q
  have L := Q.1.1
  have b1 := Q.2.1
  have k1 := Q.2.2.1.1.1
  have k14 := Q.2.2.1.2.1
  have w := Q.2.2.2.1.1
  induction q with
  | zero =>
    intro fu i a hi hf
    obtain ⟨fu, rfl⟩ : ∃ g : Nat, fu = g + 1 := ⟨fu - 1, by omega⟩
    have e : Int32.ofNat (bF (aB A)) ≤ Int32.ofNat i := by rw [le_of (by omega) (by omega)]; omega
    rw [mX16_gapsOf_l4, b_gR, if_pos (qK0 L), b1, b_gI, if_pos k1, k14, if_pos e, cntF_0]
  | succ q ih =>
    intro fu i a hi hf
    obtain ⟨fu, rfl⟩ : ∃ g : Nat, fu = g + 1 := ⟨fu - 1, by omega⟩
    have e : ¬ Int32.ofNat (bF (aB A)) ≤ Int32.ofNat i := by rw [le_of (by omega) (by omega)]; omega
    have bd := bad_n (k := i) (n := 6) (by omega) (by omega)
    have ih1 := ih fu (i + 1) (if gp (hAI h k) i = true then a + 1 else a) (by omega) (by omega)
    rw [mX16_gapsOf_l4, b_gR, if_pos (qK0 L), b1, b_gI, if_pos k1, k14, if_neg e, b_gAI, if_pos hk, hn, if_neg bd, cl_of (by omega), cntF_s, ← ih1]
    by_cases g : hAI h k i = -1
    · rw [if_pos g, mX16_gapsOf_b28, s1_of, if_pos (by simp [gp, g])]
    · rw [if_neg g, mX16_gapsOf_b28, s1_of, if_neg (by simp [gp, g]), Int32.add_zero]
theorem q_gaps {m b n k : Nat} {h : MHp} {A : AS} (Q : RQ m b n h A) (hk : hK h k = 20) (hn : hN h k = 6) : mX16_gapsOf h m (some k) = some (cntF (gp (hAI h k)) (bF (aB A)) 0 0) := by
  have := Q.2.2.2.1.1
  exact q_gaps_l4 Q hk hn (bF (aB A)) FUEL 0 0 (by omega) (by unfold FUEL; omega)
/-- how many gaps a row has now -/
def gpA (A : AS) (r : Nat) : Int32 := cntF (gp (vX A r (aS A 3) 0)) (bF (aB A)) 0 0
theorem p_countGaps {c r : Nat} {h : MHp} {A : AS} (C : CR c h A) (W : WA A) (hr : r < aN A 2) : ∃ h2 : MHp, mX9_countGaps h (c + 56) (Int32.ofNat r) = some (gpA A r, h2) ∧ Sc c h h2 := by
  obtain ⟨b, G⟩ := C.rg W
  have L := C.l
  have td := C.td
  have e1 := g_load G hr (fil := 0) (by omega) (aS A 3) (k := 118) (Or.inl rfl)
  have S : Sc c h (sAI h (c + 118) (lD c h (bF (aB A)) r (aS A 3) 0 (hAI h (c + 118)))) := Sc.AI 118 _ (by decide)
  have hx : hAI (sAI h (c + 118) (lD c h (bF (aB A)) r (aS A 3) 0 (hAI h (c + 118)))) (c + 118) = lD c h (bF (aB A)) r (aS A 3) 0 (hAI h (c + 118)) := by rw [e_sAI, if_pos rfl]
  have G2 := G.sc S
  revert e1 S hx G2
  generalize sAI h (c + 118) (lD c h (bF (aB A)) r (aS A 3) 0 (hAI h (c + 118))) = h2
  intro e1 S hx G2
  have L2 := G2.1
  have e10 : mX9_load h (c + 56) (Int32.ofNat r) (aS A 3) 0 (some (c + 118)) = some h2 := e1
  have e3 := g_gaps G2 (k := c + 118) (lK118 L2) (lN118 L2)
  have hb := (W.2.2.2.2.2.2.2.2.2.1 r hr).1
  have w6 := W.1.1
  have e4 : ms (gp (hAI h2 (c + 118))) (bF (aB A)) 0 0 = ms (gp (vX A r (aS A 3) 0)) (bF (aB A)) 0 0 := by
    refine ms_congr _ _ _ (fun j _ hj => ?_)
    unfold gp
    rw [hx]
    simp only [lD, if_pos (show j < 6 by omega)]
    rw [lV_vX C W hr (by omega) (by omega) hb]
  rw [e4] at e3
  refine ⟨h2, ?_, S⟩
  rw [mX9_countGaps, b_rcv, if_pos (lK56 L), mX9_loadNow, b_gI, if_pos (lK56 L), td, b_gR, if_pos (lK56 L), lR56_11 L, b_rcv, if_pos (lK56 L), e10, o_bind, o_bind, b_gR, if_pos (lK56 L2), G2.2.1, b_gR, if_pos (lK56 L2), lR56_11 L2, b_rcv, if_pos G2.ib.1, e3, o_bind, j_bits, o_bind, bc_ms _ w6]
  rfl
theorem orTwo_un {h : MHp} {x : Int32} (hx : x ≠ -2 → 0 ≤ x) : mX16_orTwo h (un2 x) = some x := by
  by_cases e : x = -2
  · subst e; rfl
  · have n := n1_of (hx e)
    rw [un2_n e, mX16_orTwo, if_neg n]
theorem x_of {c m : Nat} {h : MHp} {A : AS} (C : CR c h A) (W : WA A) (a w : Int32) : XS c m h A (mX11_of h c a w) (fun h1 => mX16_of h1 m a w) := by
  obtain ⟨b, G⟩ := C.rg W
  have L := C.l
  have t1 := C.2.1.2.2.2.2.2.1
  have h60 := W.2.2.2.1
  have td := C.td
  rcases rng a (aN A 2) with ⟨r, hr, rfl⟩ | hno
  · have e1 := p_has1 L t1 h60 hr
    have bd := bad_n (k := r) (n := 60) (by omega) (by omega)
    have wr := W.2.2.2.2.2.2.2.2.2.1 r hr
    have hle := bB_le (aB A) (vX A r (aS A 3) 0)
    have w12 := W.1.2.1
    -- the reference: the row is loaded first
    have ref : ∀ h1 : MHp, RR m h1 A → ∃ (h2 : MHp) (b : Nat), Rs m h1 h2 ∧ RR m h2 A ∧ RQ m b (aN A 2) h2 A ∧ hAI h2 (m + 13) = rD A r (aS A 3) 0 (hAI (sI h1 m 0 0) (m + 13)) ∧ mX16_isRow (sI h1 m 0 0) m (Int32.ofNat r) = some 1 ∧ mX16_loads (sI h1 m 0 0) m (Int32.ofNat r) (aS A 3) 0 (some (m + 13)) = some h2 := fun h1 R => by
      have R2 := R.th 0
      obtain ⟨b, Q⟩ := R2.rq W (W.pos hr)
      have S : Rs m (sI h1 m 0 0) (sAI (sI h1 m 0 0) (m + 13) (rD A r (aS A 3) 0 (hAI (sI h1 m 0 0) (m + 13)))) := Rs.AI 13 _ (by decide)
      refine ⟨_, b, (Rs.I 0 0 (by decide)).tr S, R2.sc S, Q.sc S, by rw [e_sAI, if_pos rfl], q_isRow1 R2.1.1 R2.2.1.2.2.1 h60 hr, q_loads (fil := 0) Q hr (by omega) (aS A 3) (Or.inl rfl)⟩
    have fin : ∀ (v : Int32) (h2 : MHp), mX11_of h c (Int32.ofNat r) w = some (v, h2) → Sc c h h2 → (∀ (h1 h3 : MHp) (b : Nat), RR m h3 A → RQ m b (aN A 2) h3 A → hAI h3 (m + 13) = rD A r (aS A 3) 0 (hAI (sI h1 m 0 0) (m + 13)) → hK (sI h1 m 0 0) m = 17 → hK h1 m = 17 → hI (sI h1 m 0 0) m 19 = aS A 3 → hR (sI h1 m 0 0) m 29 = some (m + 13) → mX16_isRow (sI h1 m 0 0) m (Int32.ofNat r) = some 1 → mX16_loads (sI h1 m 0 0) m (Int32.ofNat r) (aS A 3) 0 (some (m + 13)) = some h3 → mX16_of h1 m (Int32.ofNat r) w = some (v, h3)) → XS c m h A (mX11_of h c (Int32.ofNat r) w) (fun h1 => mX16_of h1 m (Int32.ofNat r) w) := fun v h2 ec S er => by
      refine ⟨v, A, W, ⟨h2, ec, C.sc W S, S.oc⟩, fun h1 R => ?_⟩
      obtain ⟨h3, b, S3, R3, Q3, x3, i3, l3⟩ := ref h1 R
      have R2 := R.th 0
      exact ⟨h3, er h1 h3 b R3 Q3 x3 (qK0 R2.1.1) (qK0 R.1.1) R2.2.1.2.2.2.2.2.2.2.1 (qR29 R2.1.1) i3 l3, R3, S3.om⟩
    have cls : mX11_of h c (Int32.ofNat r) w = (if w = 0 then (gR 12 2 h (some c)).bind fun x5 => (gR 12 2 h (some c)).bind fun x6 => (gI 10 7 h x6).bind fun x7 => (rcv 10 h x5).bind fun b9 => (mX9_isThere h b9 (Int32.ofNat r) x7).bind fun r8 => (if r8 = 0 then some (0, h) else some (1, h)) else (if w = 1 then (gR 12 2 h (some c)).bind fun x11 => (rcv 10 h x11).bind fun b13 => (mX9_ruleThatHolds h b13 (Int32.ofNat r)).bind fun r12 => (if r12.1 = (-2) then some (0, r12.2) else some (1, r12.2)) else (if w = 2 then (gR 12 2 h (some c)).bind fun x15 => (rcv 10 h x15).bind fun b17 => (mX9_countGaps h b17 (Int32.ofNat r)).bind fun r16 => some (r16.1, r16.2) else (if w = 3 then (gR 12 2 h (some c)).bind fun x18 => (gR 10 2 h x18).bind fun x19 => (gAI 20 h x19 (Int32.ofNat r)).bind fun x20 => some (x20, h) else (if w = 4 then (gR 12 2 h (some c)).bind fun x21 => (gR 10 3 h x21).bind fun x22 => (gAI 20 h x22 (Int32.ofNat r)).bind fun x23 => some (x23, h) else (if w = 5 then (gR 12 2 h (some c)).bind fun x24 => (gR 10 4 h x24).bind fun x25 => (gAI 20 h x25 (Int32.ofNat r)).bind fun x26 => some (x26, h) else (if w = 6 then (gR 12 2 h (some c)).bind fun x27 => (rcv 10 h x27).bind fun b29 => (mX9_ruleThatHolds h b29 (Int32.ofNat r)).bind fun r28 => some (r28.1, r28.2) else some ((-1), h)))))))) := by
      rw [mX11_of, b_gR, if_pos (lK0 L), lR0_2 L, b_rcv, if_pos (lK56 L), e1, o_bind, if_neg n10]
    have CC := C.2.2.1
    have a3 : hAI h (c + 112) = aA A 3 := CC.2.2.2.2.2.2.2.1
    have a4 : hAI h (c + 113) = aA A 4 := CC.2.2.2.2.2.2.2.2.1
    have a5 : hAI h (c + 114) = aA A 5 := CC.2.2.2.2.2.2.2.2.2.1
    have fe : ¬ (false = true) := Bool.false_ne_true
    have clr : (Int32.ofNat r).toNatClampNeg = r := cl_of (by omega)
    by_cases q0 : w = 0
    · rw [if_pos q0, b_gR, if_pos (lK0 L), lR0_2 L, b_gR, if_pos (lK0 L), lR0_2 L, b_gI, if_pos (lK56 L), td, b_rcv, if_pos (lK56 L), C.th W hr, o_bind] at cls
      refine fin (if thA A r (aS A 3) = true then 1 else 0) h ?_ Sc.rf (fun h1 h3 b R3 Q3 x3 K0 K1 i19 r29 f1 l3 => ?_)
      · rw [cls]; by_cases g : thA A r (aS A 3) = true
        · rw [if_pos g, if_neg n10]
        · rw [if_neg g, if_pos rfl]
      · rw [mX16_of, b_pI, if_pos K1, b_rcv, if_pos K0, f1, o_bind, if_neg n10, b_gI, if_pos K0, i19, b_gR, if_pos K0, r29, b_rcv, if_pos K0, l3, o_bind, if_pos q0, b_gI, if_pos (qK0 R3.1.1), Q3.2.2.2.2.2.2.1, b_rcv, if_pos (qK0 R3.1.1), q_isThere Q3.1 h60 hr, o_bind]
        by_cases g : thA A r (aS A 3) = true
        · rw [if_pos g, if_neg n10]
        · rw [if_neg g, if_pos rfl]
    rw [if_neg q0] at cls
    have br : ∀ (h3 : MHp) (b : Nat), RR m h3 A → RQ m b (aN A 2) h3 A → ∀ g : Nat → Int32, hAI h3 (m + 13) = rD A r (aS A 3) 0 g → mX12_broken h3 b (some (m + 13)) = some (if bB (aB A) (vX A r (aS A 3) 0) < bN (aB A) then Int32.ofNat (bB (aB A) (vX A r (aS A 3) 0)) else -1) := fun h3 b R3 Q3 g x3 => by
      have e := q_brokenRow Q3 (qK13 R3.1.1) (qN13 R3.1.1)
      rw [x3, bB_rD W.1] at e
      exact e
    obtain ⟨hr2, er2, Sr2⟩ := C.rr W hr
    have lt12 : bB (aB A) (vX A r (aS A 3) 0) < 2147483648 := by omega
    by_cases q1 : w = 1
    · rw [if_pos q1, b_gR, if_pos (lK0 L), lR0_2 L, b_rcv, if_pos (lK56 L), er2, o_bind] at cls
      refine fin (if bB (aB A) (vX A r (aS A 3) 0) < bN (aB A) then 1 else 0) hr2 ?_ Sr2 (fun h1 h3 b R3 Q3 x3 K0 K1 i19 r29 f1 l3 => ?_)
      · rw [cls]; by_cases g : bB (aB A) (vX A r (aS A 3) 0) < bN (aB A)
        · rw [if_pos g, if_pos g, if_neg (nm2_of lt12)]
        · rw [if_neg g, if_neg g, if_pos rfl]
      · rw [mX16_of, b_pI, if_pos K1, b_rcv, if_pos K0, f1, o_bind, if_neg n10, b_gI, if_pos K0, i19, b_gR, if_pos K0, r29, b_rcv, if_pos K0, l3, o_bind, if_neg q0, if_pos q1, b_gR, if_pos (qK0 R3.1.1), Q3.2.1, b_gR, if_pos (qK0 R3.1.1), qR29 R3.1.1, b_rcv, if_pos Q3.2.2.1.1.1, br h3 b R3 Q3 _ x3, o_bind]
        by_cases g : bB (aB A) (vX A r (aS A 3) 0) < bN (aB A)
        · rw [if_pos g, if_pos g, if_neg (nm_of lt12)]
        · rw [if_neg g, if_neg g, if_pos rfl]
    rw [if_neg q1] at cls
    by_cases q2 : w = 2
    · obtain ⟨h2, e2, S2⟩ := p_countGaps C W hr
      rw [if_pos q2, b_gR, if_pos (lK0 L), lR0_2 L, b_rcv, if_pos (lK56 L), e2, o_bind] at cls
      refine fin (gpA A r) h2 cls S2 (fun h1 h3 b R3 Q3 x3 K0 K1 i19 r29 f1 l3 => ?_)
      have eg : cntF (gp (hAI h3 (m + 13))) (bF (aB A)) 0 0 = gpA A r := by
        refine cntF_congr _ _ _ (fun j _ hj => ?_)
        unfold gp
        rw [x3]
        simp only [rD, vX, if_pos (show j < bF (aB A) by omega)]
        exact decide_eq_decide.mpr Iff.rfl
      rw [mX16_of, b_pI, if_pos K1, b_rcv, if_pos K0, f1, o_bind, if_neg n10, b_gI, if_pos K0, i19, b_gR, if_pos K0, r29, b_rcv, if_pos K0, l3, o_bind, if_neg q0, if_neg q1, if_pos q2, b_gR, if_pos (qK0 R3.1.1), qR29 R3.1.1, b_rcv, if_pos (qK0 R3.1.1), q_gaps Q3 (qK13 R3.1.1) (qN13 R3.1.1), o_bind, eg]
    rw [if_neg q2] at cls
    by_cases q3 : w = 3
    · rw [if_pos q3, b_gR, if_pos (lK0 L), lR0_2 L, b_gR, if_pos (lK56 L), lR56_2 L, b_gAI, if_pos (lK112 L), lN112 L, if_neg bd, a3, clr] at cls
      refine fin (aA A 3 r) h cls Sc.rf (fun h1 h3 b R3 Q3 x3 K0 K1 i19 r29 f1 l3 => ?_)
      have c6 := Q3.1.2.2.2.2.2.2 r hr
      rw [mX16_of, b_pI, if_pos K1, b_rcv, if_pos K0, f1, o_bind, if_neg n10, b_gI, if_pos K0, i19, b_gR, if_pos K0, r29, b_rcv, if_pos K0, l3, o_bind, if_neg q0, if_neg q1, if_neg q2, if_pos q3, b_gR, if_pos (qK0 R3.1.1), qR25 R3.1.1, b_gAI, if_pos (qK9 R3.1.1), qN9 R3.1.1, if_neg bd, clr, c6.2.1, orTwo_un c6.2.2.2.2.1, o_bind]
    rw [if_neg q3] at cls
    by_cases q4 : w = 4
    · rw [if_pos q4, b_gR, if_pos (lK0 L), lR0_2 L, b_gR, if_pos (lK56 L), lR56_3 L, b_gAI, if_pos (lK113 L), lN113 L, if_neg bd, a4, clr] at cls
      refine fin (aA A 4 r) h cls Sc.rf (fun h1 h3 b R3 Q3 x3 K0 K1 i19 r29 f1 l3 => ?_)
      have c6 := Q3.1.2.2.2.2.2.2 r hr
      rw [mX16_of, b_pI, if_pos K1, b_rcv, if_pos K0, f1, o_bind, if_neg n10, b_gI, if_pos K0, i19, b_gR, if_pos K0, r29, b_rcv, if_pos K0, l3, o_bind, if_neg q0, if_neg q1, if_neg q2, if_neg q3, if_pos q4, b_gR, if_pos (qK0 R3.1.1), qR27 R3.1.1, b_gAI, if_pos (qK11 R3.1.1), qN11 R3.1.1, if_neg bd, clr, c6.2.2.1, orTwo_un c6.2.2.2.2.2, o_bind]
    rw [if_neg q4] at cls
    by_cases q5 : w = 5
    · rw [if_pos q5, b_gR, if_pos (lK0 L), lR0_2 L, b_gR, if_pos (lK56 L), lR56_4 L, b_gAI, if_pos (lK114 L), lN114 L, if_neg bd, a5, clr] at cls
      refine fin (aA A 5 r) h cls Sc.rf (fun h1 h3 b R3 Q3 x3 K0 K1 i19 r29 f1 l3 => ?_)
      rw [mX16_of, b_pI, if_pos K1, b_rcv, if_pos K0, f1, o_bind, if_neg n10, b_gI, if_pos K0, i19, b_gR, if_pos K0, r29, b_rcv, if_pos K0, l3, o_bind, if_neg q0, if_neg q1, if_neg q2, if_neg q3, if_neg q4, if_pos q5, b_gR, if_pos (qK0 R3.1.1), qR28 R3.1.1, b_gAI, if_pos (qK12 R3.1.1), qN12 R3.1.1, if_neg bd, clr, Q3.2.2.2.2.2.2.2]
    rw [if_neg q5] at cls
    by_cases q6 : w = 6
    · rw [if_pos q6, b_gR, if_pos (lK0 L), lR0_2 L, b_rcv, if_pos (lK56 L), er2, o_bind] at cls
      refine fin _ hr2 cls Sr2 (fun h1 h3 b R3 Q3 x3 K0 K1 i19 r29 f1 l3 => ?_)
      rw [mX16_of, b_pI, if_pos K1, b_rcv, if_pos K0, f1, o_bind, if_neg n10, b_gI, if_pos K0, i19, b_gR, if_pos K0, r29, b_rcv, if_pos K0, l3, o_bind, if_neg q0, if_neg q1, if_neg q2, if_neg q3, if_neg q4, if_neg q5, if_pos q6, b_gR, if_pos (qK0 R3.1.1), Q3.2.1, b_gR, if_pos (qK0 R3.1.1), qR29 R3.1.1, b_rcv, if_pos Q3.2.2.1.1.1, br h3 b R3 Q3 _ x3, o_bind]
      by_cases g : bB (aB A) (vX A r (aS A 3) 0) < bN (aB A)
      · rw [if_pos g, if_pos g, mX16_orTwo, if_neg (nm_of lt12), o_bind]
      · rw [if_neg g, if_neg g, mX16_orTwo, if_pos rfl, o_bind]
    rw [if_neg q6] at cls
    refine fin (-1) h cls Sc.rf (fun h1 h3 b R3 Q3 x3 K0 K1 i19 r29 f1 l3 => ?_)
    rw [mX16_of, b_pI, if_pos K1, b_rcv, if_pos K0, f1, o_bind, if_neg n10, b_gI, if_pos K0, i19, b_gR, if_pos K0, r29, b_rcv, if_pos K0, l3, o_bind, if_neg q0, if_neg q1, if_neg q2, if_neg q3, if_neg q4, if_neg q5, if_neg q6]
  · have e1 := p_has0 L t1 h60 hno
    refine ⟨-1, A, W, ⟨h, ?_, C, Oc.rf⟩, fun h1 R => ⟨sI h1 m 0 0, ?_, R.th 0, Om.th 0⟩⟩
    · rw [mX11_of, b_gR, if_pos (lK0 L), lR0_2 L, b_rcv, if_pos (lK56 L), e1, o_bind, if_pos rfl]
    · have R2 := R.th 0
      have f1 := q_isRow0 R2.1.1 R2.2.1.2.2.1 h60 hno
      show mX16_of h1 m a w = _
      rw [mX16_of, b_pI, if_pos (qK0 R.1.1), b_rcv, if_pos (qK0 R2.1.1), f1, o_bind, if_pos rfl]

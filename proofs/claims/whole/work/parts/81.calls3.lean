/-! tables and cells; figure, far, span -/
def isC (A : AS) (t i j : Int32) : Prop := ∃ k u v : Nat, k < aN A 1 ∧ u < vs (aB A) (pI1 (aP A k)) ∧ v < vs (aB A) (pI2 (aP A k)) ∧ t = Int32.ofNat k ∧ i = Int32.ofNat u ∧ j = Int32.ofNat v
theorem p_hasTable1 {c k : Nat} {h : MHp} {A : AS} (C : CR c h A) (W : WA A) (hk : k < aN A 1) : mX11_hasTable h c (Int32.ofNat k) = some 1 := by
  obtain ⟨⟨b, s, L, -⟩, y, -⟩ := C
  have e := y.2.1
  have h8 := W.2.2.1
  have c1 : ¬ Int32.ofNat k < 0 := by rw [nn_of (by omega)]; exact not_false
  have c2 : ¬ Int32.ofNat (aN A 1) ≤ Int32.ofNat k := by rw [le_of (by omega) (by omega)]; omega
  have c3 : ¬ (9 : Int32) ≤ Int32.ofNat k := by rw [show (9 : Int32) = Int32.ofNat 9 from rfl, le_of (by omega) (by omega)]; omega
  simp (disch := omega) only [mX11_hasTable, c1, lK0 L, e, c2, lR0_3 L, lK119 L, lN119 L, c3, o_bind, o_map, b_rcv, b_gI, b_gL, b_gR, b_gN, b_pI, b_pL, b_pR, b_gAI, b_gAL, b_gAR, b_pAI, b_pAL, bad_of, bad_l, Bool.false_eq_true, ↓reduceIte, Int32.reduceLT, Int32.reduceLE, Int32.reduceToNatClampNeg, Int32.reduceOfNat, Int32.reduceAdd, Int32.reduceSub, Int32.reduceMul, Nat.reduceAdd, Nat.reduceMul, Nat.reduceEqDiff]
theorem p_hasTable0 {c : Nat} {a : Int32} {h : MHp} {A : AS} (C : CR c h A) (W : WA A) (ha : ∀ k : Nat, k < aN A 1 → a ≠ Int32.ofNat k) : mX11_hasTable h c a = some 0 := by
  obtain ⟨⟨b, s, L, -⟩, y, -⟩ := C
  have e := y.2.1
  have h8 := W.2.2.1
  by_cases h1 : a < 0
  · rw [mX11_hasTable, if_pos h1]
  · obtain ⟨k, rfl, hk⟩ := ex_of h1
    have h2 : aN A 1 ≤ k := Nat.le_of_not_lt (fun h => ha k h rfl)
    have c2 : Int32.ofNat (aN A 1) ≤ Int32.ofNat k := by rw [le_of (by omega) (by omega)]; omega
    rw [mX11_hasTable, if_neg h1, b_gI, if_pos (lK0 L), e, if_pos c2]
theorem p_planCell1 {h : MHp} {p i j : Nat} {B : Bk} {P : Pl} (I : IsP h p) (C : CP h p B P) (WB0 : WB B) (W : WP B P) (hi : i < vs B (pI1 P)) (hj : j < vs B (pI2 P)) : mX7_hasCell h p (Int32.ofNat i) (Int32.ofNat j) = some 1 := by
  have i1 := I.1
  obtain ⟨-, -, -, c4, c5, -⟩ := C
  have b1 := vs_le WB0 W.2.1
  have b2 := vs_le WB0 W.2.2.1
  have a2 : ¬ Int32.ofNat i < 0 := by rw [nn_of (by omega)]; exact not_false
  have a3 : ¬ Int32.ofNat (vs B (pI1 P)) ≤ Int32.ofNat i := by rw [le_of (by omega) (by omega)]; omega
  have a5 : ¬ Int32.ofNat j < 0 := by rw [nn_of (by omega)]; exact not_false
  have a6 : ¬ Int32.ofNat (vs B (pI2 P)) ≤ Int32.ofNat j := by rw [le_of (by omega) (by omega)]; omega
  rw [mX7_hasCell, if_neg a2, b_gI, if_pos i1, c4, if_neg a3, if_neg a5, b_gI, if_pos i1, c5, if_neg a6]
theorem p_planCell0 {h : MHp} {p : Nat} {i j : Int32} {B : Bk} {P : Pl} (I : IsP h p) (C : CP h p B P) (WB0 : WB B) (W : WP B P) (hn : (∀ u : Nat, u < vs B (pI1 P) → i ≠ Int32.ofNat u) ∨ ∀ u : Nat, u < vs B (pI2 P) → j ≠ Int32.ofNat u) : mX7_hasCell h p i j = some 0 := by
  have i1 := I.1
  obtain ⟨-, -, -, c4, c5, -⟩ := C
  have b1 := vs_le WB0 W.2.1
  have b2 := vs_le WB0 W.2.2.1
  by_cases h1 : i < 0
  · rw [mX7_hasCell, if_pos h1]
  · by_cases h2 : Int32.ofNat (vs B (pI1 P)) ≤ i
    · rw [mX7_hasCell, if_neg h1, b_gI, if_pos i1, c4, if_pos h2]
    · by_cases h3 : j < 0
      · rw [mX7_hasCell, if_neg h1, b_gI, if_pos i1, c4, if_neg h2, if_pos h3]
      · by_cases h4 : Int32.ofNat (vs B (pI2 P)) ≤ j
        · rw [mX7_hasCell, if_neg h1, b_gI, if_pos i1, c4, if_neg h2, if_neg h3, b_gI, if_pos i1, c5, if_pos h4]
        · exfalso
          obtain ⟨u, rfl, hu⟩ := ex_of h1
          obtain ⟨v, rfl, hv⟩ := ex_of h3
          rw [le_of (by omega) (by omega)] at h2 h4
          rcases hn with hn | hn
          · exact hn u (by omega) rfl
          · exact hn v (by omega) rfl
theorem p_hasCell1 {c k i j : Nat} {h : MHp} {A : AS} (C : CR c h A) (W : WA A) (hk : k < aN A 1) (hi : i < vs (aB A) (pI1 (aP A k))) (hj : j < vs (aB A) (pI2 (aP A k))) : mX11_hasCell h c (Int32.ofNat k) (Int32.ofNat i) (Int32.ofNat j) = some 1 := by
  have e1 := p_hasTable1 C W hk
  obtain ⟨p1, p2, p3, p4, p5⟩ := C.plan W hk
  have e2 := p_planCell1 p1 p3 W.1 p5 hi hj
  have i1 := p1.1
  obtain ⟨⟨b, s, L, -⟩, -⟩ := C
  have h8 := W.2.2.1
  simp (disch := omega) only [mX11_hasCell, lK0 L, e1, n10, lR0_3 L, lK119 L, lN119 L, cl_of, p2, i1, e2, o_bind, o_map, b_rcv, b_gI, b_gL, b_gR, b_gN, b_pI, b_pL, b_pR, b_gAI, b_gAL, b_gAR, b_pAI, b_pAL, bad_of, bad_l, Bool.false_eq_true, ↓reduceIte, Int32.reduceLT, Int32.reduceLE, Int32.reduceToNatClampNeg, Int32.reduceOfNat, Int32.reduceAdd, Int32.reduceSub, Int32.reduceMul, Nat.reduceAdd, Nat.reduceMul, Nat.reduceEqDiff]
theorem p_hasCell0 {c : Nat} {t i j : Int32} {h : MHp} {A : AS} (C : CR c h A) (W : WA A) (hn : ¬ isC A t i j) : mX11_hasCell h c t i j = some 0 := by
  have L : CL c h := by obtain ⟨⟨b, s, L, -⟩, -⟩ := C; exact L
  rcases rng t (aN A 1) with ⟨k, hk, rfl⟩ | hno
  · have e1 := p_hasTable1 C W hk
    obtain ⟨p1, p2, p3, p4, p5⟩ := C.plan W hk
    have h8 := W.2.2.1
    have e2 : mX7_hasCell h (c + 120 + 7 * k) i j = some 0 := by
      refine p_planCell0 p1 p3 W.1 p5 ?_
      rcases rng i (vs (aB A) (pI1 (aP A k))) with ⟨u, hu, rfl⟩ | h1
      · rcases rng j (vs (aB A) (pI2 (aP A k))) with ⟨v, hv, rfl⟩ | h2
        · exact absurd ⟨k, u, v, hk, hu, hv, rfl, rfl, rfl⟩ hn
        · exact Or.inr h2
      · exact Or.inl h1
    have i1 := p1.1
    simp (disch := omega) only [mX11_hasCell, lK0 L, e1, n10, lR0_3 L, lK119 L, lN119 L, cl_of, p2, i1, e2, o_bind, o_map, b_rcv, b_gI, b_gL, b_gR, b_gN, b_pI, b_pL, b_pR, b_gAI, b_gAL, b_gAR, b_pAI, b_pAL, bad_of, bad_l, Bool.false_eq_true, ↓reduceIte, Int32.reduceLT, Int32.reduceLE, Int32.reduceToNatClampNeg, Int32.reduceOfNat, Int32.reduceAdd, Int32.reduceSub, Int32.reduceMul, Nat.reduceAdd, Nat.reduceMul, Nat.reduceEqDiff]
  · have e1 := p_hasTable0 C W hno
    rw [mX11_hasCell, b_rcv, if_pos (lK0 L), e1, o_bind, if_pos rfl]
theorem q_isTable1 {m k : Nat} {h : MHp} {A : AS} (C : RR m h A) (W : WA A) (hk : k < aN A 1) : mX16_isTable h m (Int32.ofNat k) = some 1 := by
  have L := C.1.1
  have e := C.2.1.2.1
  have h8 := W.2.2.1
  have c1 : ¬ Int32.ofNat k < 0 := by rw [nn_of (by omega)]; exact not_false
  have c2 : ¬ Int32.ofNat (aN A 1) ≤ Int32.ofNat k := by rw [le_of (by omega) (by omega)]; omega
  rw [mX16_isTable, if_neg c1, b_gI, if_pos (qK0 L), e, if_neg c2]
theorem q_isTable0 {m : Nat} {a : Int32} {h : MHp} {A : AS} (C : RR m h A) (W : WA A) (ha : ∀ k : Nat, k < aN A 1 → a ≠ Int32.ofNat k) : mX16_isTable h m a = some 0 := by
  have L := C.1.1
  have e := C.2.1.2.1
  have h8 := W.2.2.1
  by_cases h1 : a < 0
  · rw [mX16_isTable, if_pos h1]
  · obtain ⟨k, rfl, hk⟩ := ex_of h1
    have h2 : aN A 1 ≤ k := Nat.le_of_not_lt (fun h => ha k h rfl)
    have c2 : Int32.ofNat (aN A 1) ≤ Int32.ofNat k := by rw [le_of (by omega) (by omega)]; omega
    rw [mX16_isTable, if_neg h1, b_gI, if_pos (qK0 L), e, if_pos c2]
theorem oim : oi none = -1 := rfl
theorem q_valuesOf {m b n : Nat} {h : MHp} {A : AS} {o : Option Nat} (Q : RQ m b n h A) (W : WO (bF (aB A)) o) : mX16_valuesOf h m (oi o) = some (Int32.ofNat (vs (aB A) o)) := by
  have L := Q.1.1
  have b1 := Q.2.1
  obtain ⟨⟨k1, k2, k3, k4, k5, k6, k7, k8, k9, k10, k11, k12, k13⟩, k14, k15, k16, -⟩ := Q.2.2.1
  have w := Q.2.2.2.1.1
  cases o with
  | none => rw [mX16_valuesOf, if_pos oim]; rfl
  | some f =>
    have hf := W f rfl
    obtain ⟨-, s1, -⟩ := k16 f hf
    have o2 := (oi_m (o := some f) rfl (show f < 6 by omega)).2
    have o1 : oi (some f) = Int32.ofNat f := rfl
    rw [mX16_valuesOf, if_neg o2, o1]
    simp (disch := omega) only [qK0 L, b1, k1, k3, k7, k11, cl_of, s1, s1_of, o_bind, o_map, b_rcv, b_gI, b_gL, b_gR, b_gN, b_pI, b_pL, b_pR, b_gAI, b_gAL, b_gAR, b_pAI, b_pAL, bad_of, bad_l, Bool.false_eq_true, ↓reduceIte, Int32.reduceLT, Int32.reduceLE, Int32.reduceToNatClampNeg, Int32.reduceOfNat, Int32.reduceAdd, Int32.reduceSub, Int32.reduceMul, Nat.reduceAdd, Nat.reduceMul, Nat.reduceEqDiff]
    rfl
theorem q_table {m k : Nat} {h : MHp} {A : AS} (C : RR m h A) (hk : k < aN A 1) : ∃ p : Nat, hAR h (m + 1) k = some p ∧ RP (m + 26) h p (aP A k) ∧ RX h p (aT A k) := by
  obtain ⟨p, p1, p2, p3, -⟩ := C.2.2.2.2.2 k hk
  exact ⟨p, p1, p2, p3⟩
theorem in_of {h : MHp} {i n : Nat} (hn : 1 ≤ n) (hn2 : n ≤ 100) (hi : i < n) : mX16_in h (Int32.ofNat i) 0 (Int32.ofNat n - 1) = some 1 := by
  have e : Int32.ofNat n - 1 = Int32.ofNat (n - 1) := by
    obtain ⟨q, rfl⟩ : ∃ q : Nat, n = q + 1 := ⟨n - 1, by omega⟩
    rw [← s1_of, Nat.add_sub_cancel, Int32.add_sub_cancel]
  rw [q_in, e, if_pos]
  exact ⟨by rw [show (0 : Int32) = Int32.ofNat 0 from rfl, le_of (by omega) (by omega)]; omega, by rw [le_of (by omega) (by omega)]; omega⟩
theorem in_no {h : MHp} {n : Nat} {i : Int32} (hn : 1 ≤ n) (hn2 : n ≤ 100) (hi : ∀ u : Nat, u < n → i ≠ Int32.ofNat u) : mX16_in h i 0 (Int32.ofNat n - 1) = some 0 := by
  have e : Int32.ofNat n - 1 = Int32.ofNat (n - 1) := by
    obtain ⟨q, rfl⟩ : ∃ q : Nat, n = q + 1 := ⟨n - 1, by omega⟩
    rw [← s1_of, Nat.add_sub_cancel, Int32.add_sub_cancel]
  rw [q_in, e, if_neg]
  rintro ⟨h1, h2⟩
  have h3 : ¬ i < 0 := Int32.not_lt.mpr h1
  obtain ⟨u, rfl, hu⟩ := ex_of h3
  rw [le_of (by omega) (by omega)] at h2
  exact hi u (by omega) rfl
theorem q_isCell1 {m k i j : Nat} {h : MHp} {A : AS} (C : RR m h A) (W : WA A) (hk : k < aN A 1) (hi : i < vs (aB A) (pI1 (aP A k))) (hj : j < vs (aB A) (pI2 (aP A k))) : mX16_isCell h m (Int32.ofNat k) (Int32.ofNat i) (Int32.ofNat j) = some 1 := by
  have e1 := q_isTable1 C W hk
  obtain ⟨p, p1, p2, p3⟩ := q_table C hk
  obtain ⟨b, Q⟩ := C.rq W (W.post hk)
  have w5 := W.2.2.2.2.2.1 k hk
  have L := C.1.1
  have h8 := W.2.2.1
  have b1 := vs_le W.1 w5.2.1
  have b2 := vs_le W.1 w5.2.2.1
  have e2 := q_valuesOf Q w5.2.1
  have e3 := q_valuesOf Q w5.2.2.1
  have e4 := in_of (h := h) b1.1 (by omega) hi
  have e5 := in_of (h := h) b2.1 (by omega) hj
  obtain ⟨⟨k1, -⟩, c1, c2, c3, -⟩ := p2
  simp (disch := omega) only [mX16_isCell, qK0 L, e1, n10, qR6 L, qK1 L, qN1 L, cl_of, p1, k1, c2, e2, e4, c3, e3, e5, o_bind, o_map, b_rcv, b_gI, b_gL, b_gR, b_gN, b_pI, b_pL, b_pR, b_gAI, b_gAL, b_gAR, b_pAI, b_pAL, bad_of, bad_l, Bool.false_eq_true, ↓reduceIte, Int32.reduceLT, Int32.reduceLE, Int32.reduceToNatClampNeg, Int32.reduceOfNat, Int32.reduceAdd, Int32.reduceSub, Int32.reduceMul, Nat.reduceAdd, Nat.reduceMul, Nat.reduceEqDiff]
theorem q_isCell0 {m : Nat} {t i j : Int32} {h : MHp} {A : AS} (C : RR m h A) (W : WA A) (hn : ¬ isC A t i j) : mX16_isCell h m t i j = some 0 := by
  have L := C.1.1
  rcases rng t (aN A 1) with ⟨k, hk, rfl⟩ | hno
  · have e1 := q_isTable1 C W hk
    obtain ⟨p, p1, p2, p3⟩ := q_table C hk
    obtain ⟨b, Q⟩ := C.rq W (W.post hk)
    have w5 := W.2.2.2.2.2.1 k hk
    have h8 := W.2.2.1
    have b1 := vs_le W.1 w5.2.1
    have b2 := vs_le W.1 w5.2.2.1
    have e2 := q_valuesOf Q w5.2.1
    have e3 := q_valuesOf Q w5.2.2.1
    obtain ⟨⟨k1, -⟩, c1, c2, c3, -⟩ := p2
    rcases rng i (vs (aB A) (pI1 (aP A k))) with ⟨u, hu, rfl⟩ | h1
    · have e4 := in_of (h := h) b1.1 (by omega) hu
      rcases rng j (vs (aB A) (pI2 (aP A k))) with ⟨v, hv, rfl⟩ | h2
      · exact absurd ⟨k, u, v, hk, hu, hv, rfl, rfl, rfl⟩ hn
      · have e5 := in_no (h := h) b2.1 (by omega) h2
        simp (disch := omega) only [mX16_isCell, qK0 L, e1, n10, qR6 L, qK1 L, qN1 L, cl_of, p1, k1, c2, e2, e4, c3, e3, e5, o_bind, o_map, b_rcv, b_gI, b_gL, b_gR, b_gN, b_pI, b_pL, b_pR, b_gAI, b_gAL, b_gAR, b_pAI, b_pAL, bad_of, bad_l, Bool.false_eq_true, ↓reduceIte, Int32.reduceLT, Int32.reduceLE, Int32.reduceToNatClampNeg, Int32.reduceOfNat, Int32.reduceAdd, Int32.reduceSub, Int32.reduceMul, Nat.reduceAdd, Nat.reduceMul, Nat.reduceEqDiff]
    · have e4 := in_no (h := h) b1.1 (by omega) h1
      simp (disch := omega) only [mX16_isCell, qK0 L, e1, n10, qR6 L, qK1 L, qN1 L, cl_of, p1, k1, c2, e2, e4, o_bind, o_map, b_rcv, b_gI, b_gL, b_gR, b_gN, b_pI, b_pL, b_pR, b_gAI, b_gAL, b_gAR, b_pAI, b_pAL, bad_of, bad_l, Bool.false_eq_true, ↓reduceIte, Int32.reduceLT, Int32.reduceLE, Int32.reduceToNatClampNeg, Int32.reduceOfNat, Int32.reduceAdd, Int32.reduceSub, Int32.reduceMul, Nat.reduceAdd, Nat.reduceMul, Nat.reduceEqDiff]
  · have e1 := q_isTable0 C W hno
    rw [mX16_isCell, b_rcv, if_pos (qK0 L), e1, o_bind, if_pos rfl]
theorem p_isDay {c : Nat} {h : MHp} (L : CL c h) (d : Int32) : mX9_isDay h (c + 56) d = some (if 0 ≤ d ∧ d ≤ hI h (c + 56) 7 then 1 else 0) := by
  by_cases h1 : d < 0
  · rw [mX9_isDay, if_pos h1]; simp [le_y h1]
  · by_cases h2 : hI h (c + 56) 7 < d
    · rw [mX9_isDay, if_neg h1, b_gI, if_pos (lK56 L), if_pos h2]; simp [le_y h2]
    · rw [mX9_isDay, if_neg h1, b_gI, if_pos (lK56 L), if_neg h2]; simp [le_n h1, le_n h2]

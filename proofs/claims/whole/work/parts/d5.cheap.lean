/-! the class's cheapest set -/
theorem p_costl {c b n S : Nat} {h : MHp} {B : Bk} (G : RG c b n h B) : ∀ (q f fu : Nat), f + q = bF B → q < fu → mX1_costOf_l4 h fu b (Int32.ofNat S) (Int32.ofNat (cS B S f)) (Int32.ofNat f) = some (Int32.ofNat (cS B S (bF B))) := by
  intro q
  obtain ⟨L, r1, r2, r3, r4, r5, r6⟩ := id G
  obtain ⟨i1, i2, i3, i4, i5, i6, i7, i8, i9, i10, i11, i12, i13, i14⟩ := G.ib
  have w6 := r4.1
  induction q with
  | zero =>
    intro f fu hf hfu
    obtain ⟨fu, rfl⟩ : ∃ g : Nat, fu = g + 1 := ⟨fu - 1, by omega⟩
    have : f = bF B := by omega
    subst this
    rw [mX1_costOf_l4, b_gI, if_pos i1, r3.1, if_pos (by rw [le_of (by omega) (by omega)]; omega)]
  | succ q ih =>
    intro f fu hf hfu
    obtain ⟨fu, rfl⟩ : ∃ g : Nat, fu = g + 1 := ⟨fu - 1, by omega⟩
    have bf := bad_n (k := f) (n := 6) (by omega) (by omega)
    have clf : (Int32.ofNat f).toNatClampNeg = f := cl_of (by omega)
    have e := ih (f + 1) fu (by omega) (by omega)
    rw [cS_s] at e
    by_cases s : S.testBit f = true
    · rw [if_pos s, Int32.ofNat_add] at e
      rw [mX1_costOf_l4, b_gI, if_pos i1, r3.1, if_neg (by rw [le_of (by omega) (by omega)]; omega), if_neg (by rw [show (6 : Int32) = Int32.ofNat 6 from rfl, le_of (by omega) (by omega)]; omega), if_neg (by rw [b0_N (by omega), s]; decide), b_gR, if_pos i1, i4, b_gAI, if_pos i8, i12, if_neg bf, clf, (r3.2.2.1 f (by omega)).2, mX1_costOf_b35, s1_of, e]
    · have s' : S.testBit f = false := by simpa using s
      rw [if_neg s, Nat.add_zero] at e
      rw [mX1_costOf_l4, b_gI, if_pos i1, r3.1, if_neg (by rw [le_of (by omega) (by omega)]; omega), if_neg (by rw [show (6 : Int32) = Int32.ofNat 6 from rfl, le_of (by omega) (by omega)]; omega), if_pos (by rw [b0_N (by omega)]; exact s'), mX1_costOf_b35, s1_of, e]
theorem p_costOf {c b n S : Nat} {h : MHp} {B : Bk} (G : RG c b n h B) : mX1_costOf h b (Int32.ofNat S) = some (Int32.ofNat (cS B S (bF B))) := by
  have w6 := G.2.2.2.2.1.1
  exact p_costl G (bF B) 0 FUEL (by omega) (by unfold FUEL; omega)
theorem p_allFields {c b n : Nat} {h : MHp} {B : Bk} (G : RG c b n h B) : mX1_allFields h b = some (Int32.ofNat (2 ^ bF B - 1)) := by
  rw [mX1_allFields, b_gI, if_pos G.ib.1, G.2.2.2.1.1, all_N G.2.2.2.2.1.1]
theorem p_isBetter {c b n S T : Nat} {h : MHp} {B : Bk} (G : RG c b n h B) (hS : S < 64) (hT : T < 64) : mX5_isBetter h (c + 185) (Int32.ofNat S) (Int32.ofNat T) = some (if kM B S < kM B T then 1 else 0) := by
  obtain ⟨L, r1, r2, r3, r4, r5, r6⟩ := id G
  have K := lK185 L
  have i1 := G.ib.1
  have w6 := r4.1
  have a1 := cS_le (B := B) (S := S) (bF B) (fun f hf => (r4.2.2.1 f hf).2.2.2)
  have a2 := cS_le (B := B) (S := T) (bF B) (fun f hf => (r4.2.2.1 f hf).2.2.2)
  have b1 := sumB_le 12 S
  have b2 := sumB_le 12 T
  obtain ⟨d1, d2, d3⟩ := dif_N (a := cS B S (bF B)) (b := cS B T (bF B)) (by omega) (by omega)
  obtain ⟨f1, f2, f3⟩ := dif_N (a := sumB 12 S) (b := sumB 12 T) (by omega) (by omega)
  have k := kM_lt (B := B) S T
  rw [mX5_isBetter, b_gR, if_pos K, lR185_0 L, b_gR, if_pos (lK56 L), r1, b_rcv, if_pos i1, p_costOf G, o_bind, b_gR, if_pos K, lR185_0 L, b_gR, if_pos (lK56 L), r1, b_rcv, if_pos i1, p_costOf G, o_bind]
  by_cases e1 : cS B S (bF B) = cS B T (bF B)
  · rw [if_pos (by rw [d1]; exact e1), j_bc h (by omega), o_bind, j_bc h (by omega), o_bind]
    by_cases e2 : sumB 12 S = sumB 12 T
    · rw [if_pos (by rw [f1]; exact e2)]
      by_cases e3 : rv6 S ≤ rv6 T
      · rw [if_pos ((rv_all S hS T hT).mpr e3), if_neg (fun hh => by have := k.mp hh; omega)]
      · rw [if_neg (fun hh => e3 ((rv_all S hS T hT).mp hh)), if_pos (k.mpr (Or.inr ⟨e1, Or.inr ⟨e2, e3⟩⟩))]
    · rw [if_neg (by rw [f1]; exact e2)]
      by_cases e3 : sumB 12 T ≤ sumB 12 S
      · rw [if_pos (by rw [f3]; exact e3), if_neg (fun hh => by have := k.mp hh; omega)]
      · rw [if_neg (by rw [f3]; exact e3), if_pos (k.mpr (Or.inr ⟨e1, Or.inl (by omega)⟩))]
  · rw [if_neg (by rw [d1]; exact e1)]
    by_cases e3 : cS B T (bF B) ≤ cS B S (bF B)
    · rw [if_pos (by rw [d3]; exact e3), if_neg (fun hh => by have := k.mp hh; omega)]
    · rw [if_neg (by rw [d3]; exact e3), if_pos (k.mpr (Or.inl (by omega)))]
theorem Sd.rf {c : Nat} {h : MHp} : Sd c h h := ⟨Sc.rf, rfl, fun _ _ _ _ => rfl⟩
theorem Sd.own {c : Nat} {h h1 : MHp} (A : Sd c h h1) : hAI h1 (c + 186) = hAI h (c + 186) := A.2.2 _ (by omega) (by omega) (by omega)
/-- within a set, of those before s and the set itself the least that mends -/
def Lst (B : Bk) (x : Nat → Int32) (F s M : Nat) : Prop := 1 ≤ M ∧ M &&& F = M ∧ Mn B x M ∧ ∀ T : Nat, 1 ≤ T → (T < s ∨ T = F) → T &&& F = T → Mn B x T → kM B M ≤ kM B T
theorem c_chl {c b n F : Nat} {B : Bk} {x : Nat → Int32} (sp : spT B (bF B) ≤ 20000) (hF : F < 2 ^ bF B) : ∀ (q s fu M : Nat) (h : MHp), RG c b n h B → hAI h (c + 186) = x → Lst B x F s M → 1 ≤ s → s + q = 64 → q < fu → ∃ (N : Nat) (h1 : MHp), mX5_cheapestSet_l46 fu h (c + 185) (Int32.ofNat F) (Int32.ofNat M) (Int32.ofNat s) = some (Int32.ofNat N, h1) ∧ Sd c h h1 ∧ Lst B x F F N := by
  intro q
  induction q with
  | zero =>
    intro s fu M h G hx I h1 hq hfu
    obtain ⟨fu, rfl⟩ : ∃ g : Nat, fu = g + 1 := ⟨fu - 1, by omega⟩
    have p6 := p2_64 G.2.2.2.2.1.1
    refine ⟨M, h, ?_, Sd.rf, I.1, I.2.1, I.2.2.1, fun T a b => I.2.2.2 T a (by omega)⟩
    rw [mX5_cheapestSet_l46, if_pos (by rw [le_of (by omega) (by omega)]; omega)]
  | succ q ih =>
    intro s fu M h G hx I h1 hq hfu
    obtain ⟨fu, rfl⟩ : ∃ g : Nat, fu = g + 1 := ⟨fu - 1, by omega⟩
    have L := G.1
    have K := lK185 L
    have p6 := p2_64 G.2.2.2.2.1.1
    obtain ⟨I1, I2, I3, I4⟩ := id I
    have M64 : M ≤ F := by rw [← I2]; exact Nat.and_le_right
    by_cases g1 : F ≤ s
    · refine ⟨M, h, ?_, Sd.rf, I1, I2, I3, fun T a b => I4 T a (by omega)⟩
      rw [mX5_cheapestSet_l46, if_pos (by rw [le_of (by omega) (by omega)]; omega)]
    have n1 : ¬ Int32.ofNat F ≤ Int32.ofNat s := by rw [le_of (by omega) (by omega)]; omega
    have n2 : ¬ (64 : Int32) ≤ Int32.ofNat s := by rw [show (64 : Int32) = Int32.ofNat 64 from rfl, le_of (by omega) (by omega)]; omega
    by_cases g2 : s &&& F = s
    · have m2 := (sub_all s (by omega) F (by omega)).mpr g2
      by_cases g3 : kM B s < kM B M
      · obtain ⟨h2, S2, r2⟩ := p_find (S := s) G (fun f hf => bit_lt hF f (cut_sub g2 f hf)) sp
        have G2 := G.sc S2.1
        rcases r2 with ⟨v, e2, mv, -⟩ | ⟨e2, nv⟩
        · rw [hx] at mv
          obtain ⟨N, h3, e3, S3, r3⟩ := ih (s + 1) fu s h2 G2 (by rw [S2.own, hx]) ⟨h1, g2, ⟨v, mv.1⟩, fun T a b d e => by
            by_cases q : T = s
            · rw [q]; exact Nat.le_refl _
            · have := I4 T a (by omega) d e
              omega⟩ (by omega) (by omega) (by omega)
          refine ⟨N, h3, ?_, S2.tr S3, r3⟩
          rw [mX5_cheapestSet_l46, if_neg n1, if_neg n2, if_pos m2, b_rcv, if_pos K, p_isBetter G (by omega) (by omega), if_pos g3, o_bind, if_neg n10, b_rcv, if_pos K, e2, o_bind, if_neg n10, mX5_cheapestSet_b84, s1_of, e3]
        · rw [hx] at nv
          obtain ⟨N, h3, e3, S3, r3⟩ := ih (s + 1) fu M h2 G2 (by rw [S2.own, hx]) ⟨I1, I2, I3, fun T a b d e => by
            by_cases q : T = s
            · subst q
              obtain ⟨v, hv⟩ := e
              exact absurd hv (nv v)
            · exact I4 T a (by omega) d e⟩ (by omega) (by omega) (by omega)
          refine ⟨N, h3, ?_, S2.tr S3, r3⟩
          rw [mX5_cheapestSet_l46, if_neg n1, if_neg n2, if_pos m2, b_rcv, if_pos K, p_isBetter G (by omega) (by omega), if_pos g3, o_bind, if_neg n10, b_rcv, if_pos K, e2, o_bind, if_pos rfl, mX5_cheapestSet_b84, s1_of, e3]
      · obtain ⟨N, h3, e3, S3, r3⟩ := ih (s + 1) fu M h G hx ⟨I1, I2, I3, fun T a b d e => by
          by_cases q : T = s
          · subst q; omega
          · exact I4 T a (by omega) d e⟩ (by omega) (by omega) (by omega)
        refine ⟨N, h3, ?_, S3, r3⟩
        rw [mX5_cheapestSet_l46, if_neg n1, if_neg n2, if_pos m2, b_rcv, if_pos K, p_isBetter G (by omega) (by omega), if_neg g3, o_bind, if_pos rfl, mX5_cheapestSet_b84, s1_of, e3]
    · have m2 : ¬ ((Int32.ofNat s &&& (Int32.ofNat F ^^^ (-1))) = 0) := fun hh => g2 ((sub_all s (by omega) F (by omega)).mp hh)
      obtain ⟨N, h3, e3, S3, r3⟩ := ih (s + 1) fu M h G hx ⟨I1, I2, I3, fun T a b d e => by
          by_cases q : T = s
          · subst q; exact absurd d g2
          · exact I4 T a (by omega) d e⟩ (by omega) (by omega) (by omega)
      refine ⟨N, h3, ?_, S3, r3⟩
      rw [mX5_cheapestSet_l46, if_neg n1, if_neg n2, if_neg m2, mX5_cheapestSet_b84, s1_of, e3]
theorem p_cheapest {c b n : Nat} {h : MHp} {B : Bk} (G : RG c b n h B) (sp : spT B (bF B) ≤ 20000) (ok : okX B (hAI h (c + 186))) (hb : bB B (hAI h (c + 186)) < bN B) : ∃ h1 : MHp, Sd c h h1 ∧ ((∃ M : Nat, mX5_cheapestSet h (c + 185) = some (Int32.ofNat M, h1) ∧ IsMin B (hAI h (c + 186)) M) ∨ mX5_cheapestSet h (c + 185) = some (0, h1) ∧ ∀ T : Nat, 1 ≤ T → T < 2 ^ bF B → ¬ Mn B (hAI h (c + 186)) T) := by
  obtain ⟨L, r1, r2, r3, r4, r5, r6⟩ := id G
  have K := lK185 L
  have i1 := G.ib.1
  have p6 := p2_64 r4.1
  have hF : frN B (hAI h (c + 186)) < 2 ^ bF B := bits6_lt _ _
  have eg : mX1_gapsOf h b (some (c + 186)) = some (Int32.ofNat (bits6 (gp (hAI h (c + 186))) (bF B))) := by
    rw [g_gaps G (lK186 L) (lN186 L), ms_N _ r4.1]
  have ef : (Int32.ofNat (2 ^ bF B - 1) &&& (Int32.ofNat (bits6 (gp (hAI h (c + 186))) (bF B)) ^^^ (-1))) = Int32.ofNat (frN B (hAI h (c + 186))) := free_N _ r4.1
  have none : ¬ Mn B (hAI h (c + 186)) (frN B (hAI h (c + 186))) → ∀ T : Nat, 1 ≤ T → T < 2 ^ bF B → ¬ Mn B (hAI h (c + 186)) T := fun hn T a d e => hn ((e.cut r4).ext r4 ok (fun j hj => by
    rw [Nat.testBit_and, Bool.and_eq_true] at hj; exact hj.2))
  have base : mX5_cheapestSet h (c + 185) = if Int32.ofNat (frN B (hAI h (c + 186))) = 0 then some (0, h) else (mX5_findValues h (c + 185) (Int32.ofNat (frN B (hAI h (c + 186))))).bind fun r19 => (if r19.1 = 0 then some (0, r19.2) else mX5_cheapestSet_l46 FUEL r19.2 (c + 185) (Int32.ofNat (frN B (hAI h (c + 186)))) (Int32.ofNat (frN B (hAI h (c + 186)))) 1) := by
    rw [mX5_cheapestSet, b_gR, if_pos K, lR185_0 L, b_gR, if_pos (lK56 L), r1, b_rcv, if_pos i1, p_allFields G, o_bind, b_gR, if_pos K, lR185_0 L, b_gR, if_pos (lK56 L), r1, b_gR, if_pos K, lR185_2 L, b_rcv, if_pos i1, eg, o_bind, ef, b_rcv, if_pos K]
  by_cases z : frN B (hAI h (c + 186)) = 0
  · refine ⟨h, Sd.rf, Or.inr ⟨by rw [base, z]; rfl, none (fun e => ?_)⟩⟩
    have := e.ne hb
    omega
  · have z2 : ¬ Int32.ofNat (frN B (hAI h (c + 186))) = 0 := by
      rw [show (0 : Int32) = Int32.ofNat 0 from rfl, eq_of (by omega) (by omega)]; exact z
    obtain ⟨h2, S2, q2⟩ := p_find (S := frN B (hAI h (c + 186))) G (fun f hf => bit_lt hF f hf) sp
    rcases q2 with ⟨v, e2, mv, -⟩ | ⟨e2, nv⟩
    · obtain ⟨N, h3, e3, S3, q3⟩ := c_chl (x := hAI h (c + 186)) sp hF 63 1 FUEL (frN B (hAI h (c + 186))) h2 (G.sc S2.1) S2.own ⟨by omega, Nat.and_self _, ⟨v, mv.1⟩, fun T a d e _ => by
        have : T = frN B (hAI h (c + 186)) := by omega
        rw [this]; exact Nat.le_refl _⟩ (by omega) (by omega) (by unfold FUEL; omega)
      have hN : N < 2 ^ bF B := by
        have : N ≤ frN B (hAI h (c + 186)) := by rw [← q3.2.1]; exact Nat.and_le_right
        omega
      refine ⟨h3, S2.tr S3, Or.inl ⟨N, ?_, q3.1, hN, q3.2.2.1, fun T a d e => ?_⟩⟩
      · rw [base, if_neg z2, e2, o_bind, if_neg n10]
        exact e3
      · have c1 := e.cut r4
        have c2 := q3.2.2.2 _ (c1.ne hb) (by
          have : T &&& frN B (hAI h (c + 186)) ≤ frN B (hAI h (c + 186)) := Nat.and_le_right
          omega) (by rw [Nat.and_assoc, Nat.and_self]) c1
        rcases cut_lt r4 (F := frN B (hAI h (c + 186))) d with e4 | e4
        · rw [e4] at c2; exact c2
        · omega
    · refine ⟨h2, S2, Or.inr ⟨by rw [base, if_neg z2, e2, o_bind, if_pos rfl], none (fun e => ?_)⟩⟩
      obtain ⟨v, hv⟩ := e
      exact nv v hv

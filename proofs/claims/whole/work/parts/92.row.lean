/-! row -/
def gv (a b c d e f : Int32) (j : Nat) : Int32 := if j = 0 then a else if j = 1 then b else if j = 2 then c else if j = 3 then d else if j = 4 then e else f
def okV (B : Bk) (x : Nat → Int32) (f : Nat) : Bool := decide (x f = -1) || (decide (0 ≤ x f) && decide (x f ≤ Int32.ofNat (bT B f)))
theorem p_hasValueG {c b n f : Nat} {v : Int32} {h : MHp} {B : Bk} (G : RG c b n h B) (hf : f < bF B) : mX1_hasValue h b (Int32.ofNat f) v = some (if 0 ≤ v ∧ v ≤ Int32.ofNat (bT B f) then 1 else 0) := by
  have e1 := p_topOf G hf
  have i1 := G.ib.1
  by_cases h1 : v < 0
  · rw [mX1_hasValue, if_pos h1, if_neg (fun hh => le_y h1 hh.1)]
  · rw [mX1_hasValue, if_neg h1, b_rcv, if_pos i1, e1, o_bind]
    by_cases h2 : Int32.ofNat (bT B f) < v
    · rw [if_pos h2, if_neg (fun hh => le_y h2 hh.2)]
    · rw [if_neg h2, if_pos ⟨le_n h1, le_n h2⟩]
theorem p_allows_l2 {c b n k : Nat} {h : MHp} {B : Bk} (G : RG c b n h B) (hk : hK h k = 20) (hn : hN h k = 6) : ∀ (q fu i : Nat), i + q = bF B → q < fu → mX1_allows_l2 h fu b (some k) (Int32.ofNat i) = some (if allF (okV B (hAI h k)) q i = true then 1 else 0) := by
  intro q
  have i1 := G.ib.1
  have c1 := G.2.2.2.1.1
  have w1 := G.2.2.2.2.1.1
  induction q with
  | zero =>
    intro fu i hi hf
    obtain ⟨fu, rfl⟩ : ∃ g : Nat, fu = g + 1 := ⟨fu - 1, by omega⟩
    have e : Int32.ofNat (bF B) ≤ Int32.ofNat i := by rw [le_of (by omega) (by omega)]; omega
    rw [mX1_allows_l2, b_gI, if_pos i1, c1, if_pos e, allF_0, if_pos rfl]
  | succ q ih =>
    intro fu i hi hf
    obtain ⟨fu, rfl⟩ : ∃ g : Nat, fu = g + 1 := ⟨fu - 1, by omega⟩
    have e : ¬ Int32.ofNat (bF B) ≤ Int32.ofNat i := by rw [le_of (by omega) (by omega)]; omega
    have e2 : ¬ (6 : Int32) ≤ Int32.ofNat i := by rw [show (6 : Int32) = Int32.ofNat 6 from rfl, le_of (by omega) (by omega)]; omega
    have bd := bad_n (k := i) (n := 6) (by omega) (by omega)
    have ih1 := ih fu (i + 1) (by omega) (by omega)
    have e6 : Int32.ofNat (hN h k) = 6 := by rw [hn]; rfl
    rw [mX1_allows_l2, b_gI, if_pos i1, c1, if_neg e, b_gN, if_pos hk, e6, if_neg e2, b_gAI, if_pos hk, hn, if_neg bd, cl_of (by omega), allF_s]
    by_cases q1 : hAI h k i = -1
    · rw [if_pos q1, mX1_allows_b36, s1_of, ih1]
      simp [okV, q1]
    · rw [if_neg q1, b_gAI, if_pos hk, hn, if_neg bd, cl_of (by omega), b_rcv, if_pos i1, p_hasValueG G (show i < bF B by omega), o_bind]
      by_cases q2 : 0 ≤ hAI h k i ∧ hAI h k i ≤ Int32.ofNat (bT B i)
      · rw [if_pos q2, if_neg n10, mX1_allows_b36, s1_of, ih1]
        simp [okV, q2]
      · rw [if_neg q2, if_pos rfl]
        have : okV B (hAI h k) i = false := by simp only [okV, q1, decide_false, Bool.false_or]; rw [← Bool.not_eq_true, Bool.and_eq_true, decide_eq_true_eq, decide_eq_true_eq]; exact q2
        rw [this, Bool.false_and, if_neg (by decide)]
theorem p_allows {c b n k : Nat} {h : MHp} {B : Bk} (G : RG c b n h B) (hk : hK h k = 20) (hn : hN h k = 6) : mX1_allows h b (some k) = some (if allF (okV B (hAI h k)) (bF B) 0 = true then 1 else 0) := by
  have := G.2.2.2.2.1.1
  exact p_allows_l2 G hk hn (bF B) FUEL 0 (by omega) (by unfold FUEL; omega)
theorem m1le {v : Int32} (h : 0 ≤ v) : (-1) ≤ v := by
  rw [Int32.le_iff_toInt_le] at h ⊢
  have m1 : (-1 : Int32).toInt = -1 := rfl
  have m0 : (0 : Int32).toInt = 0 := rfl
  rw [m1]; rw [m0] at h; omega
theorem okV_iff {B : Bk} {x : Nat → Int32} {f : Nat} (hb : bT B f ≤ 9) : okV B x f = decide ((-1) ≤ x f ∧ x f ≤ Int32.ofNat (bT B f)) := by
  unfold okV
  by_cases q1 : x f = -1
  · have h1 : (-1 : Int32) ≤ Int32.ofNat (bT B f) := m1le (by rw [show (0 : Int32) = Int32.ofNat 0 from rfl, le_of (by omega) (by omega)]; omega)
    rw [q1]
    simp [h1]
  · by_cases q2 : 0 ≤ x f
    · have h2 := m1le q2
      simp [q1, q2, h2]
    · have h3 : ¬ ((-1) ≤ x f) := by
        intro h
        rw [Int32.le_iff_toInt_le] at h q2
        have m1 : (-1 : Int32).toInt = -1 := rfl
        have m0 : (0 : Int32).toInt = 0 := rfl
        rw [m1] at h; rw [m0] at q2
        exact q1 (Int32.toInt_inj.mp (by rw [m1]; omega))
      simp [q1, q2, h3]
theorem q_isValue {m f : Nat} {v : Int32} {h : MHp} {A : AS} (C : RR m h A) (W : WA A) (hb : 0 < bF (aB A)) (hf : f < 6) : mX16_isValue h m (Int32.ofNat f) v = some (if bF (aB A) ≤ f ∨ ((-1) ≤ v ∧ v ≤ Int32.ofNat (bT (aB A) f)) then 1 else 0) := by
  obtain ⟨b, Q⟩ := C.rq W hb
  have L := C.1.1
  have w := W.1.1
  obtain ⟨⟨k1, k2, k3, k4, k5, k6, k7, k8, k9, k10, k11, k12, k13⟩, k14, k15, k16, -⟩ := Q.2.2.1
  by_cases e : bF (aB A) ≤ f
  · have e1 : Int32.ofNat (bF (aB A)) ≤ Int32.ofNat f := by rw [le_of (by omega) (by omega)]; omega
    rw [mX16_isValue, b_gR, if_pos (qK0 L), Q.2.1, b_gI, if_pos k1, k14, if_pos e1, if_pos (Or.inl e)]
  · have e1 : ¬ Int32.ofNat (bF (aB A)) ≤ Int32.ofNat f := by rw [le_of (by omega) (by omega)]; omega
    have bd := bad_n (k := f) (n := 6) hf (by omega)
    have t1 := q_top Q (show f < bF (aB A) by omega)
    rw [mX16_isValue, b_gR, if_pos (qK0 L), Q.2.1, b_gI, if_pos k1, k14, if_neg e1, b_gR, if_pos (qK0 L), Q.2.1, b_gR, if_pos k1, k3, b_gAI, if_pos k7, k11, if_neg bd, cl_of (by omega), t1, q_in, o_bind]
    by_cases e2 : (-1) ≤ v ∧ v ≤ Int32.ofNat (bT (aB A) f)
    · rw [if_pos e2, if_neg n10, if_pos (Or.inr e2)]
    · rw [if_neg e2, if_pos rfl, if_neg (by rintro (h | h); exact e h; exact e2 h)]
def rwA (A : AS) (x : Nat → Int32) : AS := mkA (fun i => if i = 2 then aN A 2 + 1 else aN A i) (aS A) (fun i => if i = 1 then va_up (aA A 1) (aN A 2) (aS A 3) else if i = 2 then va_up (aA A 2) (aN A 2) (-2) else if i = 3 then va_up (aA A 3) (aN A 2) (-2) else if i = 4 then va_up (aA A 4) (aN A 2) (-2) else if i = 5 then va_up (aA A 5) (aN A 2) 1 else if i = 6 then va_cpy x (aA A 6) 0 (aN A 2 * 6) 6 else if i = 9 then va_up (aA A 9) (aN A 2) 0 else aA A i) (aB A) (aP A) (aT A)
theorem WA.rw {A : AS} (W : WA A) {x : Nat → Int32} (hb : 0 < bF (aB A)) (hn : aN A 2 < 60) (hx : ∀ f : Nat, f < bF (aB A) → (-1) ≤ x f ∧ x f ≤ Int32.ofNat (bT (aB A) f)) : WA (rwA A x) := by
  obtain ⟨v1, v2, v3, v4, v5, v6, v7, v8, v9, v10, v11, v12, v13, v14, v15, v16, v17, v18, v19, v20⟩ := W
  have w6 := v1.1
  have m2 : (-2 : Int32) ≤ aS A 3 := by
    rw [Int32.le_iff_toInt_le] at v8 ⊢
    have m1 : (-2 : Int32).toInt = -2 := rfl
    have m0 : (0 : Int32).toInt = 0 := rfl
    rw [m1]; rw [m0] at v8; omega
  refine ⟨v1, v2, v3, by show aN A 2 + 1 ≤ 60; omega, v5, v6, fun h0 => ?_, v8, v9, fun r hr => ?_, v11, v12, v13, v14, v15, v16, v17, v18, v19, v20⟩
  · have : bF (aB A) = 0 := h0
    omega
  · have hr2 : r < aN A 2 + 1 := hr
    show va_up (aA A 1) (aN A 2) (aS A 3) r ≤ aS A 3 ∧ 0 ≤ va_up (aA A 1) (aN A 2) (aS A 3) r ∧ va_up (aA A 2) (aN A 2) (-2) r ≤ aS A 3 ∧ va_up (aA A 3) (aN A 2) (-2) r ≤ aS A 3 ∧ va_up (aA A 4) (aN A 2) (-2) r ≤ aS A 3 ∧ (va_up (aA A 2) (aN A 2) (-2) r ≠ -2 → 0 ≤ va_up (aA A 2) (aN A 2) (-2) r) ∧ (va_up (aA A 3) (aN A 2) (-2) r ≠ -2 → 0 ≤ va_up (aA A 3) (aN A 2) (-2) r) ∧ (va_up (aA A 4) (aN A 2) (-2) r ≠ -2 → 0 ≤ va_up (aA A 4) (aN A 2) (-2) r) ∧ 1 ≤ va_up (aA A 5) (aN A 2) 1 r ∧ va_up (aA A 5) (aN A 2) 1 r ≤ 99 ∧ (∀ f : Nat, f < bF (aB A) → (-1) ≤ va_cpy x (aA A 6) 0 (aN A 2 * 6) 6 (r * 6 + f) ∧ va_cpy x (aA A 6) 0 (aN A 2 * 6) 6 (r * 6 + f) ≤ Int32.ofNat (bT (aB A) f) ∧ (va_up (aA A 3) (aN A 2) (-2) r ≠ -2 → mb (va_up (aA A 9) (aN A 2) 0 r) f = true → va_cpy x (aA A 6) 0 (aN A 2 * 6) 6 (r * 6 + f) ≠ -1 ∧ 0 ≤ aA A 7 (r * 6 + f) ∧ aA A 7 (r * 6 + f) ≤ Int32.ofNat (bT (aB A) f)) ∧ (va_up (aA A 4) (aN A 2) (-2) r ≠ -2 → ∀ fil : Nat, fil < 5 → 0 ≤ aA A 8 (6 * (5 * r + fil) + f) ∧ aA A 8 (6 * (5 * r + fil) + f) ≤ Int32.ofNat (bT (aB A) f))) ∧ (va_up (aA A 4) (aN A 2) (-2) r ≠ -2 → bB (aB A) (fun f => vA (rwA A x) r f (aS A 3) 0) = bN (aB A))
    by_cases q : r = aN A 2
    · simp only [va_up, if_pos q]
      refine ⟨Int32.le_refl _, v8, m2, m2, m2, fun h => absurd rfl h, fun h => absurd rfl h, fun h => absurd rfl h, by decide, by decide, fun f hf => ?_, fun h => absurd rfl h⟩
      have e : va_cpy x (aA A 6) 0 (aN A 2 * 6) 6 (r * 6 + f) = x f := by
        subst q
        unfold va_cpy
        rw [if_pos (by omega), show 0 + (aN A 2 * 6 + f - aN A 2 * 6) = f by omega]
      rw [e]
      exact ⟨(hx f hf).1, (hx f hf).2, fun h => absurd rfl h, fun h => absurd rfl h⟩
    · simp only [va_up, if_neg q]
      obtain ⟨u1, u2, u3, u4, u5, u6, u7, u8, u9, u10, u11, u12⟩ := v10 r (by omega)
      have ec : ∀ f : Nat, f < 6 → va_cpy x (aA A 6) 0 (aN A 2 * 6) 6 (r * 6 + f) = aA A 6 (r * 6 + f) := fun f hf => by
        unfold va_cpy
        rw [if_neg (by omega)]
      refine ⟨u1, u2, u3, u4, u5, u6, u7, u8, u9, u10, fun f hf => ?_, fun hh => ?_⟩
      · rw [ec f (by omega)]; exact u11 f hf
      · rw [← u12 hh]
        refine bB_congr v1 (fun f hf => ?_)
        have hf2 : f < bF (aB A) := hf
        show vA (rwA A x) r f (aS A 3) 0 = vA A r f (aS A 3) 0
        unfold vA
        show (if (sn (va_up (aA A 3) (aN A 2) (-2) r) (aS A 3) && mb (va_up (aA A 9) (aN A 2) 0 r) f) = true then aA A 7 (r * 6 + f) else if va_cpy x (aA A 6) 0 (aN A 2 * 6) 6 (r * 6 + f) = -1 then (if sn (va_up (aA A 4) (aN A 2) (-2) r) (aS A 3) = true then aA A 8 (6 * (5 * r + 0) + f) else -1) else va_cpy x (aA A 6) 0 (aN A 2 * 6) 6 (r * 6 + f)) = _
        rw [ec f (by omega)]
        simp only [va_up, if_neg q]
theorem CR.rw {c : Nat} {h : MHp} {A : AS} (W : WA A) (C : CR c h A) (x : Nat → Int32) : CR c (sI (sAI (sAI (sAI (sAI (sAI (sAI h (c + 110) (va_up (hAI h (c + 110)) (aN A 2) (aS A 3))) (c + 111) (va_up (hAI h (c + 111)) (aN A 2) (-2))) (c + 112) (va_up (hAI h (c + 112)) (aN A 2) (-2))) (c + 113) (va_up (hAI h (c + 113)) (aN A 2) (-2))) (c + 114) (va_up (hAI h (c + 114)) (aN A 2) 1)) (c + 115) (va_cpy x (hAI h (c + 115)) 0 (aN A 2 * 6) 6)) (c + 56) 6 (Int32.ofNat (aN A 2 + 1))) (rwA A x) := by
  have h8 := W.2.2.1
  have hw := W.1.2.1
  obtain ⟨⟨b9, s9, x1, x2, x3, x4, x5, x6⟩, ⟨y1, y2, y3, y4, y5, y6, y7, y8, y9⟩, ⟨z1, z2, z3, z4, z5, z6, z7, z8, z9, z10, z11, z12⟩, w1, w2, w3, w4⟩ := C
  have gI : ∀ a j : Nat, (a ≠ (c + 56) ∨ j ≠ 6) → hI (sI (sAI (sAI (sAI (sAI (sAI (sAI h (c + 110) (va_up (hAI h (c + 110)) (aN A 2) (aS A 3))) (c + 111) (va_up (hAI h (c + 111)) (aN A 2) (-2))) (c + 112) (va_up (hAI h (c + 112)) (aN A 2) (-2))) (c + 113) (va_up (hAI h (c + 113)) (aN A 2) (-2))) (c + 114) (va_up (hAI h (c + 114)) (aN A 2) 1)) (c + 115) (va_cpy x (hAI h (c + 115)) 0 (aN A 2 * 6) 6)) (c + 56) 6 (Int32.ofNat (aN A 2 + 1))) a j = hI h a j := by
    intro a j d
    rw [e_sI, if_neg (by omega)]
    rw [e_I_sAI]
    rw [e_I_sAI]
    rw [e_I_sAI]
    rw [e_I_sAI]
    rw [e_I_sAI]
    rw [e_I_sAI]
  have ga : ∀ a : Nat, a ≠ (c + 110) ∧ a ≠ (c + 111) ∧ a ≠ (c + 112) ∧ a ≠ (c + 113) ∧ a ≠ (c + 114) ∧ a ≠ (c + 115) → hAI (sI (sAI (sAI (sAI (sAI (sAI (sAI h (c + 110) (va_up (hAI h (c + 110)) (aN A 2) (aS A 3))) (c + 111) (va_up (hAI h (c + 111)) (aN A 2) (-2))) (c + 112) (va_up (hAI h (c + 112)) (aN A 2) (-2))) (c + 113) (va_up (hAI h (c + 113)) (aN A 2) (-2))) (c + 114) (va_up (hAI h (c + 114)) (aN A 2) 1)) (c + 115) (va_cpy x (hAI h (c + 115)) 0 (aN A 2 * 6) 6)) (c + 56) 6 (Int32.ofNat (aN A 2 + 1))) a = hAI h a := by
    intro a d
    rw [e_AI_sI]
    rw [e_sAI, if_neg (by omega)]
    rw [e_sAI, if_neg (by omega)]
    rw [e_sAI, if_neg (by omega)]
    rw [e_sAI, if_neg (by omega)]
    rw [e_sAI, if_neg (by omega)]
    rw [e_sAI, if_neg (by omega)]
  have ag9 : ∀ lo hi : Nat, ((c + 56) < lo ∨ hi ≤ (c + 56)) ∧ ((c + 115) < lo ∨ hi ≤ (c + 110)) → Ag lo hi h (sI (sAI (sAI (sAI (sAI (sAI (sAI h (c + 110) (va_up (hAI h (c + 110)) (aN A 2) (aS A 3))) (c + 111) (va_up (hAI h (c + 111)) (aN A 2) (-2))) (c + 112) (va_up (hAI h (c + 112)) (aN A 2) (-2))) (c + 113) (va_up (hAI h (c + 113)) (aN A 2) (-2))) (c + 114) (va_up (hAI h (c + 114)) (aN A 2) 1)) (c + 115) (va_cpy x (hAI h (c + 115)) 0 (aN A 2 * 6) 6)) (c + 56) 6 (Int32.ofNat (aN A 2 + 1))) := fun lo hi d => ((((((Ag.AI _ _ (by omega)).tr (Ag.AI _ _ (by omega))).tr (Ag.AI _ _ (by omega))).tr (Ag.AI _ _ (by omega))).tr (Ag.AI _ _ (by omega))).tr (Ag.AI _ _ (by omega))).tr (Ag.I _ _ _ (by omega))
  refine ⟨⟨b9, s9, x1, x2, x3, x4, x5.ag (ag9 _ _ (by omega)) hw, x6⟩, ⟨(by rw [gI _ _ (by omega)]; exact y1), (by rw [gI _ _ (by omega)]; exact y2), (by rw [gI _ _ (by omega)]; exact y3), (by rw [gI _ _ (by omega)]; exact y4), (by rw [gI _ _ (by omega)]; exact y5), (by rw [e_sI, if_pos ⟨rfl, rfl⟩]; rfl), (by rw [gI _ _ (by omega)]; exact y7), (by rw [gI _ _ (by omega)]; exact y8), (by rw [gI _ _ (by omega)]; exact y9)⟩, ⟨(by rw [ga _ (by omega)]; exact z1), (by rw [ga _ (by omega)]; exact z2), (by rw [ga _ (by omega)]; exact z3), (by rw [ga _ (by omega)]; exact z4), (by rw [ga _ (by omega)]; exact z5), (by simp only [e_AI_sI, e_sAI, Nat.add_left_cancel_iff, Nat.reduceEqDiff, if_false, if_true]; rw [z6]; rfl), (by simp only [e_AI_sI, e_sAI, Nat.add_left_cancel_iff, Nat.reduceEqDiff, if_false, if_true]; rw [z7]; rfl), (by simp only [e_AI_sI, e_sAI, Nat.add_left_cancel_iff, Nat.reduceEqDiff, if_false, if_true]; rw [z8]; rfl), (by simp only [e_AI_sI, e_sAI, Nat.add_left_cancel_iff, Nat.reduceEqDiff, if_false, if_true]; rw [z9]; rfl), (by simp only [e_AI_sI, e_sAI, Nat.add_left_cancel_iff, Nat.reduceEqDiff, if_false, if_true]; rw [z10]; rfl), (by simp only [e_AI_sI, e_sAI, Nat.add_left_cancel_iff, Nat.reduceEqDiff, if_false, if_true]; rw [z11]; rfl), (by rw [ga _ (by omega)]; exact z12)⟩, ?_, (by rw [ga _ (by omega)]; exact w2), (by rw [gI _ 0 (by omega), gI _ 2 (by omega), ga (c + 207) (by omega)]; exact w3), fun k9 hk => (fun (hk2 : k9 < aN A 1) => ⟨(w4 k9 hk2).1.ag (ag9 _ _ (by omega)), (w4 k9 hk2).2.ag (ag9 _ _ (by omega))⟩) hk⟩
  · intro r hr f hf
    have hr2 : r < aN A 2 + 1 := hr
    have hf2 : f < bF (aB A) := hf
    have h6 := W.1.1
    rw [ga (c + 116) (by omega), ga (c + 117) (by omega)]
    show (va_up (aA A 3) (aN A 2) (-2) r ≠ -2 → hAI h (c + 116) (r * 6 + f) = if mb (va_up (aA A 9) (aN A 2) 0 r) f = true then aA A 7 (r * 6 + f) else va_cpy x (aA A 6) 0 (aN A 2 * 6) 6 (r * 6 + f)) ∧ (va_up (aA A 4) (aN A 2) (-2) r ≠ -2 → va_cpy x (aA A 6) 0 (aN A 2 * 6) 6 (r * 6 + f) = -1 → ∀ fil : Nat, fil < 5 → hAI h (c + 117) (fil * 360 + (r * 6 + f)) = aA A 8 (6 * (5 * r + fil) + f))
    by_cases q : r = aN A 2
    · simp only [va_up, if_pos q]
      exact ⟨fun h => absurd rfl h, fun h => absurd rfl h⟩
    · simp only [va_up, if_neg q]
      have ec : va_cpy x (aA A 6) 0 (aN A 2 * 6) 6 (r * 6 + f) = aA A 6 (r * 6 + f) := by
        unfold va_cpy
        rw [if_neg (by omega)]
      rw [ec]
      exact w1 r (by omega) f hf2

theorem RR.rw {m : Nat} {h : MHp} {A : AS} (C : RR m h A) (x : Nat → Int32) : RR m (sI (sAI (sAI (sAI (sAI (sAI (sAI (sAI h (m + 4) (va_cpy x (hAI h (m + 4)) 0 (aN A 2 * 6) 6)) (m + 7) (va_up (hAI h (m + 7)) (aN A 2) (aS A 3))) (m + 8) (va_up (hAI h (m + 8)) (aN A 2) (-1))) (m + 9) (va_up (hAI h (m + 9)) (aN A 2) (-1))) (m + 10) (va_up (hAI h (m + 10)) (aN A 2) 0)) (m + 11) (va_up (hAI h (m + 11)) (aN A 2) (-1))) (m + 12) (va_up (hAI h (m + 12)) (aN A 2) 1)) m 18 (Int32.ofNat (aN A 2 + 1))) (rwA A x) := by
  obtain ⟨x0q, ⟨y1, y2, y3, y4, y5, y6, y7, y8, y9, y10, y11, y12, y13, y14⟩, ⟨z1, z2, z3, z4, z5, z6, z7, z8, z9⟩, w1, w2, w3⟩ := C
  have gI : ∀ a j : Nat, (a ≠ m ∨ j ≠ 18) → hI (sI (sAI (sAI (sAI (sAI (sAI (sAI (sAI h (m + 4) (va_cpy x (hAI h (m + 4)) 0 (aN A 2 * 6) 6)) (m + 7) (va_up (hAI h (m + 7)) (aN A 2) (aS A 3))) (m + 8) (va_up (hAI h (m + 8)) (aN A 2) (-1))) (m + 9) (va_up (hAI h (m + 9)) (aN A 2) (-1))) (m + 10) (va_up (hAI h (m + 10)) (aN A 2) 0)) (m + 11) (va_up (hAI h (m + 11)) (aN A 2) (-1))) (m + 12) (va_up (hAI h (m + 12)) (aN A 2) 1)) m 18 (Int32.ofNat (aN A 2 + 1))) a j = hI h a j := by
    intro a j d
    rw [e_sI, if_neg (by omega)]
    rw [e_I_sAI]
    rw [e_I_sAI]
    rw [e_I_sAI]
    rw [e_I_sAI]
    rw [e_I_sAI]
    rw [e_I_sAI]
    rw [e_I_sAI]
  have ga : ∀ a : Nat, a ≠ (m + 4) ∧ a ≠ (m + 7) ∧ a ≠ (m + 8) ∧ a ≠ (m + 9) ∧ a ≠ (m + 10) ∧ a ≠ (m + 11) ∧ a ≠ (m + 12) → hAI (sI (sAI (sAI (sAI (sAI (sAI (sAI (sAI h (m + 4) (va_cpy x (hAI h (m + 4)) 0 (aN A 2 * 6) 6)) (m + 7) (va_up (hAI h (m + 7)) (aN A 2) (aS A 3))) (m + 8) (va_up (hAI h (m + 8)) (aN A 2) (-1))) (m + 9) (va_up (hAI h (m + 9)) (aN A 2) (-1))) (m + 10) (va_up (hAI h (m + 10)) (aN A 2) 0)) (m + 11) (va_up (hAI h (m + 11)) (aN A 2) (-1))) (m + 12) (va_up (hAI h (m + 12)) (aN A 2) 1)) m 18 (Int32.ofNat (aN A 2 + 1))) a = hAI h a := by
    intro a d
    rw [e_AI_sI]
    rw [e_sAI, if_neg (by omega)]
    rw [e_sAI, if_neg (by omega)]
    rw [e_sAI, if_neg (by omega)]
    rw [e_sAI, if_neg (by omega)]
    rw [e_sAI, if_neg (by omega)]
    rw [e_sAI, if_neg (by omega)]
    rw [e_sAI, if_neg (by omega)]
  have ag9 : ∀ lo hi : Nat, ((m + 12) < lo ∨ hi ≤ m) → Ag lo hi h (sI (sAI (sAI (sAI (sAI (sAI (sAI (sAI h (m + 4) (va_cpy x (hAI h (m + 4)) 0 (aN A 2 * 6) 6)) (m + 7) (va_up (hAI h (m + 7)) (aN A 2) (aS A 3))) (m + 8) (va_up (hAI h (m + 8)) (aN A 2) (-1))) (m + 9) (va_up (hAI h (m + 9)) (aN A 2) (-1))) (m + 10) (va_up (hAI h (m + 10)) (aN A 2) 0)) (m + 11) (va_up (hAI h (m + 11)) (aN A 2) (-1))) (m + 12) (va_up (hAI h (m + 12)) (aN A 2) 1)) m 18 (Int32.ofNat (aN A 2 + 1))) := fun lo hi d => (((((((Ag.AI _ _ (by omega)).tr (Ag.AI _ _ (by omega))).tr (Ag.AI _ _ (by omega))).tr (Ag.AI _ _ (by omega))).tr (Ag.AI _ _ (by omega))).tr (Ag.AI _ _ (by omega))).tr (Ag.AI _ _ (by omega))).tr (Ag.I _ _ _ (by omega))
  refine ⟨x0q.ag (ag9 _ _ (by omega)) (Nat.le_refl _) x0q.1 rfl, ⟨(by rw [gI _ _ (by omega)]; exact y1), (by rw [gI _ _ (by omega)]; exact y2), (by rw [e_sI, if_pos ⟨rfl, rfl⟩]; rfl), (by rw [gI _ _ (by omega)]; exact y4), (by rw [gI _ _ (by omega)]; exact y5), (by rw [gI _ _ (by omega)]; exact y6), (by rw [gI _ _ (by omega)]; exact y7), (by rw [gI _ _ (by omega)]; exact y8), (by rw [gI _ _ (by omega)]; exact y9), (by rw [gI _ _ (by omega)]; exact y10), (by rw [gI _ _ (by omega)]; exact y11), (by rw [gI _ _ (by omega)]; exact y12), (by rw [gI _ _ (by omega)]; exact y13), (by rw [gI _ _ (by omega)]; exact y14)⟩, ⟨(by rw [ga _ (by omega)]; exact z1), (by simp only [e_AI_sI, e_sAI, Nat.add_left_cancel_iff, Nat.reduceEqDiff, if_false, if_true]; rw [z2]; rfl), (by rw [ga _ (by omega)]; exact z3), (by rw [ga _ (by omega)]; exact z4), (by simp only [e_AI_sI, e_sAI, Nat.add_left_cancel_iff, Nat.reduceEqDiff, if_false, if_true]; rw [z5]; rfl), ?_, (by simp only [e_AI_sI, e_sAI, Nat.add_left_cancel_iff, Nat.reduceEqDiff, if_false, if_true]; rw [z7]; rfl), (by simp only [e_AI_sI, e_sAI, Nat.add_left_cancel_iff, Nat.reduceEqDiff, if_false, if_true]; rw [z8]; rfl), (by rw [ga _ (by omega)]; exact z9)⟩, (by rw [ga _ (by omega)]; exact w1), (by rw [ga _ (by omega)]; exact w2), ?_⟩
  · intro r hr
    have hr2 : r < aN A 2 + 1 := hr
    simp only [e_AI_sI, e_sAI, Nat.add_left_cancel_iff, Nat.reduceEqDiff, if_false, if_true]
    show va_up (hAI h (m + 8)) (aN A 2) (-1) r = un2 (va_up (aA A 2) (aN A 2) (-2) r) ∧ va_up (hAI h (m + 9)) (aN A 2) (-1) r = un2 (va_up (aA A 3) (aN A 2) (-2) r) ∧ va_up (hAI h (m + 11)) (aN A 2) (-1) r = un2 (va_up (aA A 4) (aN A 2) (-2) r)
    by_cases q : r = aN A 2
    · simp only [va_up, if_pos q]
      exact ⟨by decide, by decide, by decide⟩
    · simp only [va_up, if_neg q]
      exact z6 r (by omega)
  · intro k hk
    obtain ⟨p, p1, p2, p3, p4⟩ := w3 k hk
    obtain ⟨-, -, -, -, ⟨p5, p6⟩, -⟩ := id p2
    exact ⟨p, p1, p2.ag (ag9 _ _ (by omega)) (Nat.le_refl _), p3.ag (ag9 _ _ (by omega)), p4⟩

theorem row_b0 {c : Nat} {h : MHp} (L : CL c h)  (v : Int32) (hv : ¬ v = 0) : mX11_row_b93 h c  (some c) v = some (-1, sI h c 15 v) := by
  have K : hK (sI h c 15 v) c = 12 := lK0 L
  rw [mX11_row_b93, b_pI, if_pos (lK0 L), b_gI, if_pos K, e_Iself, if_neg hv]
theorem gv_up (g : Nat → Int32) (a b c d e f : Int32) : va_up (va_up (va_up (va_up (va_up (va_up g 0 a) 1 b) 2 c) 3 d) 4 e) 5 f = fun j => if j < 6 then gv a b c d e f j else g j := by
  funext j
  by_cases h : j < 6
  · rw [if_pos h]
    rcases (show j = 0 ∨ j = 1 ∨ j = 2 ∨ j = 3 ∨ j = 4 ∨ j = 5 by omega) with rfl | rfl | rfl | rfl | rfl | rfl <;> rfl
  · rw [if_neg h]
    simp only [va_up]
    rw [if_neg (by omega), if_neg (by omega), if_neg (by omega), if_neg (by omega), if_neg (by omega), if_neg (by omega)]
theorem gv_cpy (g : Nat → Int32) (n : Nat) (a b c d e f : Int32) : va_up (va_up (va_up (va_up (va_up (va_up g (n * 6) a) (n * 6 + 1) b) (n * 6 + 2) c) (n * 6 + 3) d) (n * 6 + 4) e) (n * 6 + 5) f = va_cpy (gv a b c d e f) g 0 (n * 6) 6 := by
  funext j
  unfold va_cpy
  by_cases h : n * 6 ≤ j ∧ j < n * 6 + 6
  · rw [if_pos h]
    obtain ⟨k, rfl⟩ : ∃ k : Nat, j = n * 6 + k := ⟨j - n * 6, by omega⟩
    rw [show 0 + (n * 6 + k - n * 6) = k by omega]
    simp only [va_up, gv]
    rcases (show k = 0 ∨ k = 1 ∨ k = 2 ∨ k = 3 ∨ k = 4 ∨ k = 5 by omega) with rfl | rfl | rfl | rfl | rfl | rfl <;> simp
  · rw [if_neg h]
    simp only [va_up]
    rw [if_neg (by omega), if_neg (by omega), if_neg (by omega), if_neg (by omega), if_neg (by omega), if_neg (by omega)]

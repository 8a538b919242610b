/-! filling: the state -/
def fiA (A : AS) (row : Nat) (g8 : Nat → Int32) : AS := setA (setA A 4 (va_up (aA A 4) row (aS A 3))) 8 g8
theorem sn_now {A : AS} (W : WA A) : sn (aS A 3) (aS A 3) = true := by
  have v8 := W.2.2.2.2.2.2.2.1
  unfold sn
  rw [decide_eq_true (Int32.le_refl _), Bool.and_true, decide_eq_true_eq]
  intro e
  rw [e] at v8
  exact absurd v8 (by decide)
theorem sn_m2 (d : Int32) : sn (-2) d = false := by simp [sn]
theorem WA.fi {A : AS} (W : WA A) {row : Nat} {g8 : Nat → Int32} (hr : row < aN A 2) (h4 : aA A 4 row = -2) (hT : ∀ f : Nat, f < bF (aB A) → ∀ fil : Nat, fil < 5 → 0 ≤ g8 (6 * (5 * row + fil) + f) ∧ g8 (6 * (5 * row + fil) + f) ≤ Int32.ofNat (bT (aB A) f)) (og : ∀ j : Nat, j < 30 * row ∨ 30 * row + 30 ≤ j → g8 j = aA A 8 j) (hb : bB (aB A) (fun f => if nvX A row f = -1 then g8 (6 * (5 * row + 0) + f) else nvX A row f) = bN (aB A)) : WA (fiA A row g8) := by
  have sn1 := sn_now W
  obtain ⟨v1, v2, v3, v4, v5, v6, v7, v8, v9, v10, v11⟩ := W
  have w6 := v1.1
  refine ⟨v1, v2, v3, v4, v5, v6, v7, v8, v9, fun r2 hr2 => ?_, v11⟩
  obtain ⟨u1, u2, u3, u4, u5, u6, u7, u8, u9, u10, u11, u12⟩ := v10 r2 hr2
  refine ⟨u1, u2, u3, u4, ?_, u6, u7, ?_, u9, u10, fun f hf => ⟨(u11 f hf).1, (u11 f hf).2.1, (u11 f hf).2.2.1, ?_⟩, fun hh => ?_⟩
  · show va_up (aA A 4) row (aS A 3) r2 ≤ aS A 3
    rw [e_up]
    by_cases q : r2 = row
    · rw [if_pos q]; exact Int32.le_refl _
    · rw [if_neg q]; exact u5
  · show va_up (aA A 4) row (aS A 3) r2 ≠ -2 → 0 ≤ va_up (aA A 4) row (aS A 3) r2
    rw [e_up]
    by_cases q : r2 = row
    · rw [if_pos q]; intro _; exact v8
    · rw [if_neg q]; exact u8
  · have hf2 : f < bF (aB A) := hf
    show va_up (aA A 4) row (aS A 3) r2 ≠ -2 → ∀ fil : Nat, fil < 5 → 0 ≤ g8 (6 * (5 * r2 + fil) + f) ∧ g8 (6 * (5 * r2 + fil) + f) ≤ Int32.ofNat (bT (aB A) f)
    rw [e_up]
    by_cases q : r2 = row
    · subst q
      intro _ fil hfil
      exact hT f hf2 fil hfil
    · rw [if_neg q]
      intro hh fil hfil
      rw [og _ (by omega)]
      exact (u11 f hf).2.2.2 hh fil hfil
  · show bB (aB A) (fun f => vA (fiA A row g8) r2 f (aS A 3) 0) = bN (aB A)
    by_cases q : r2 = row
    · subst q
      rw [← hb]
      refine bB_congr v1 (fun f hf => ?_)
      have wf := (u11 f hf).2.2.1
      unfold nvX vX vA
      show (if (sn (aA A 3 r2) (aS A 3) && mb (aA A 9 r2) f) = true then aA A 7 (r2 * 6 + f) else if aA A 6 (r2 * 6 + f) = -1 then (if sn (va_up (aA A 4) r2 (aS A 3) r2) (aS A 3) = true then g8 (6 * (5 * r2 + 0) + f) else -1) else aA A 6 (r2 * 6 + f)) = _
      rw [e_up, if_pos rfl, sn1, if_pos rfl, h4, sn_m2]
      by_cases g1 : (sn (aA A 3 r2) (aS A 3) && mb (aA A 9 r2) f) = true
      · rw [if_pos g1, if_pos g1]
        rw [Bool.and_eq_true] at g1
        have n3 : aA A 3 r2 ≠ -2 := fun e => by rw [e, sn_m2] at g1; cases g1.1
        rw [if_neg (n1_of (wf n3 g1.2).2.1)]
      · rw [if_neg g1, if_neg g1]
        by_cases g2 : aA A 6 (r2 * 6 + f) = -1
        · rw [if_pos g2, if_pos g2, if_neg Bool.false_ne_true, if_pos rfl]
        · rw [if_neg g2, if_neg g2, if_neg g2]
    · have hh2 : va_up (aA A 4) row (aS A 3) r2 ≠ -2 := hh
      rw [e_up, if_neg q] at hh2
      rw [← u12 hh2]
      refine bB_congr v1 (fun f hf => ?_)
      have hf2 : f < bF (aB A) := hf
      unfold vA
      show (if (sn (aA A 3 r2) (aS A 3) && mb (aA A 9 r2) f) = true then aA A 7 (r2 * 6 + f) else if aA A 6 (r2 * 6 + f) = -1 then (if sn (va_up (aA A 4) row (aS A 3) r2) (aS A 3) = true then g8 (6 * (5 * r2 + 0) + f) else -1) else aA A 6 (r2 * 6 + f)) = _
      rw [e_up, if_neg q, og _ (by omega)]

theorem CR.fw {c : Nat} {h : MHp} {A : AS} (W : WA A) (C : CR c h A) {row fil : Nat} (w : Nat → Int32) (hrow : row < 60) (hfil : fil < 5) (hn60 : aN A 2 ≤ 60) (h4 : aA A 4 row = -2) : CR c (sAI h (c + 117) (va_cpy w (hAI h (c + 117)) 0 (fil * 360 + row * 6) 6)) A := by
  have h8 := W.2.2.1
  have hw := W.1.2.1
  obtain ⟨⟨b9, s9, x1, x2, x3, x4, x5, x6⟩, ⟨y1, y2, y3, y4, y5, y6, y7, y8, y9⟩, ⟨z1, z2, z3, z4, z5, z6, z7, z8, z9, z10, z11, z12⟩, w1, w2, w3, w4⟩ := C
  have ga : ∀ a : Nat, a ≠ (c + 117) → hAI (sAI h (c + 117) (va_cpy w (hAI h (c + 117)) 0 (fil * 360 + row * 6) 6)) a = hAI h a := by
    intro a d
    rw [e_sAI, if_neg (by omega)]
  have ag9 : ∀ lo hi : Nat, ((c + 117) < lo ∨ hi ≤ (c + 117)) → Ag lo hi h (sAI h (c + 117) (va_cpy w (hAI h (c + 117)) 0 (fil * 360 + row * 6) 6)) := fun lo hi d => Ag.AI _ _ (by omega)
  refine ⟨⟨b9, s9, x1, x2, x3, x4, x5.ag (ag9 _ _ (by omega)) hw, x6⟩, ⟨y1, y2, y3, y4, y5, y6, y7, y8, y9⟩, ⟨(by rw [ga _ (by omega)]; exact z1), (by rw [ga _ (by omega)]; exact z2), (by rw [ga _ (by omega)]; exact z3), (by rw [ga _ (by omega)]; exact z4), (by rw [ga _ (by omega)]; exact z5), (by rw [ga _ (by omega)]; exact z6), (by rw [ga _ (by omega)]; exact z7), (by rw [ga _ (by omega)]; exact z8), (by rw [ga _ (by omega)]; exact z9), (by rw [ga _ (by omega)]; exact z10), (by rw [ga _ (by omega)]; exact z11), (by rw [ga _ (by omega)]; exact z12)⟩, ?_, (by rw [ga _ (by omega)]; exact w2), (by rw [ga (c + 207) (by omega)]; exact w3), fun k9 hk => (fun (hk2 : k9 < aN A 1) => ⟨(w4 k9 hk2).1.ag (ag9 _ _ (by omega)), (w4 k9 hk2).2.ag (ag9 _ _ (by omega))⟩) hk⟩
  · intro r hr f hf
    have h6 := W.1.1
    simp only [e_sAI, Nat.add_left_cancel_iff, Nat.reduceEqDiff, if_false, if_true]
    refine ⟨(w1 r hr f hf).1, fun q1 q2 fil2 hfil2 => ?_⟩
    have q : r ≠ row := fun e => q1 (by rw [e]; exact h4)
    unfold va_cpy
    rw [if_neg (by omega)]
    exact (w1 r hr f hf).2 q1 q2 fil2 hfil2

theorem CR.fi {c : Nat} {h : MHp} {A : AS} (W : WA A) (C : CR c h A) {row : Nat} {g8 : Nat → Int32} (hg8 : ∀ f : Nat, f < bF (aB A) → aA A 6 (row * 6 + f) = -1 → ∀ fil : Nat, fil < 5 → hAI h (c + 117) (fil * 360 + (row * 6 + f)) = g8 (6 * (5 * row + fil) + f)) (og : ∀ j : Nat, j < 30 * row ∨ 30 * row + 30 ≤ j → g8 j = aA A 8 j) : CR c (sAI h (c + 113) (va_up (hAI h (c + 113)) row (aS A 3))) (fiA A row g8) := by
  have h8 := W.2.2.1
  have hw := W.1.2.1
  obtain ⟨⟨b9, s9, x1, x2, x3, x4, x5, x6⟩, ⟨y1, y2, y3, y4, y5, y6, y7, y8, y9⟩, ⟨z1, z2, z3, z4, z5, z6, z7, z8, z9, z10, z11, z12⟩, w1, w2, w3, w4⟩ := C
  have ga : ∀ a : Nat, a ≠ (c + 113) → hAI (sAI h (c + 113) (va_up (hAI h (c + 113)) row (aS A 3))) a = hAI h a := by
    intro a d
    rw [e_sAI, if_neg (by omega)]
  have ag9 : ∀ lo hi : Nat, ((c + 113) < lo ∨ hi ≤ (c + 113)) → Ag lo hi h (sAI h (c + 113) (va_up (hAI h (c + 113)) row (aS A 3))) := fun lo hi d => Ag.AI _ _ (by omega)
  refine ⟨⟨b9, s9, x1, x2, x3, x4, x5.ag (ag9 _ _ (by omega)) hw, x6⟩, ⟨y1, y2, y3, y4, y5, y6, y7, y8, y9⟩, ⟨(by rw [ga _ (by omega)]; exact z1), (by rw [ga _ (by omega)]; exact z2), (by rw [ga _ (by omega)]; exact z3), (by rw [ga _ (by omega)]; exact z4), (by rw [ga _ (by omega)]; exact z5), (by rw [ga _ (by omega)]; exact z6), (by rw [ga _ (by omega)]; exact z7), (by rw [ga _ (by omega)]; exact z8), (by rw [e_sAI, if_pos rfl, z9]; rfl), (by rw [ga _ (by omega)]; exact z10), (by rw [ga _ (by omega)]; exact z11), (by rw [ga _ (by omega)]; exact z12)⟩, ?_, (by rw [ga _ (by omega)]; exact w2), (by rw [ga (c + 207) (by omega)]; exact w3), fun k9 hk => (fun (hk2 : k9 < aN A 1) => ⟨(w4 k9 hk2).1.ag (ag9 _ _ (by omega)), (w4 k9 hk2).2.ag (ag9 _ _ (by omega))⟩) hk⟩
  · intro r hr f hf
    have hr2 : r < aN A 2 := hr
    have hf2 : f < bF (aB A) := hf
    have h6 := W.1.1
    simp only [e_sAI, Nat.add_left_cancel_iff, Nat.reduceEqDiff, if_false, if_true]
    refine ⟨(w1 r hr2 f hf2).1, ?_⟩
    show va_up (aA A 4) row (aS A 3) r ≠ -2 → aA A 6 (r * 6 + f) = -1 → ∀ fil : Nat, fil < 5 → hAI h (c + 117) (fil * 360 + (r * 6 + f)) = g8 (6 * (5 * r + fil) + f)
    rw [e_up]
    by_cases q : r = row
    · subst q
      intro _ q2 fil hfil
      exact hg8 f hf2 q2 fil hfil
    · rw [if_neg q]
      intro q1 q2 fil hfil
      rw [og _ (by omega)]
      exact (w1 r hr2 f hf2).2 q1 q2 fil hfil

theorem RR.fi {m : Nat} {h : MHp} {A : AS} (C : RR m h A) (row : Nat) (g8 : Nat → Int32) (W : WA A) : RR m (sAI (sAI h (m + 6) g8) (m + 11) (va_up (hAI h (m + 11)) row (aS A 3))) (fiA A row g8) := by
  obtain ⟨x0q, ⟨y1, y2, y3, y4, y5, y6, y7, y8, y9, y10, y11, y12, y13, y14⟩, ⟨z1, z2, z3, z4, z5, z6, z7, z8, z9⟩, w1, w2, w3⟩ := C
  have ga : ∀ a : Nat, a ≠ (m + 6) ∧ a ≠ (m + 11) → hAI (sAI (sAI h (m + 6) g8) (m + 11) (va_up (hAI h (m + 11)) row (aS A 3))) a = hAI h a := by
    intro a d
    rw [e_sAI, if_neg (by omega)]
    rw [e_sAI, if_neg (by omega)]
  have ag9 : ∀ lo hi : Nat, ((m + 6) < lo ∨ hi ≤ (m + 6)) ∧ ((m + 11) < lo ∨ hi ≤ (m + 11)) → Ag lo hi h (sAI (sAI h (m + 6) g8) (m + 11) (va_up (hAI h (m + 11)) row (aS A 3))) := fun lo hi d => (Ag.AI _ _ (by omega)).tr (Ag.AI _ _ (by omega))
  refine ⟨x0q.ag (ag9 _ _ (by omega)) (Nat.le_refl _) x0q.1 rfl, ⟨y1, y2, y3, y4, y5, y6, y7, y8, y9, y10, y11, y12, y13, y14⟩, ⟨(by rw [ga _ (by omega)]; exact z1), (by rw [ga _ (by omega)]; exact z2), (by rw [ga _ (by omega)]; exact z3), (by simp only [e_sAI, Nat.add_left_cancel_iff, Nat.reduceEqDiff, if_false, if_true]; rfl), (by rw [ga _ (by omega)]; exact z5), ?_, (by rw [ga _ (by omega)]; exact z7), (by rw [ga _ (by omega)]; exact z8), (by rw [ga _ (by omega)]; exact z9)⟩, (by rw [ga _ (by omega)]; exact w1), (by rw [ga _ (by omega)]; exact w2), ?_⟩
  · intro r2 hr2
    obtain ⟨q1, q2, q3⟩ := z6 r2 hr2
    simp only [e_sAI, Nat.add_left_cancel_iff, Nat.reduceEqDiff, if_false, if_true]
    refine ⟨q1, q2, ?_⟩
    show va_up (hAI h (m + 11)) row (aS A 3) r2 = un2 (va_up (aA A 4) row (aS A 3) r2)
    rw [e_up, e_up]
    by_cases q : r2 = row
    · rw [if_pos q, if_pos q, un2_n]
      intro e
      have v8 := W.2.2.2.2.2.2.2.1
      rw [e] at v8
      exact absurd v8 (by decide)
    · rw [if_neg q, if_neg q]; exact q3
  · intro k hk
    obtain ⟨p, p1, p2, p3, p4⟩ := w3 k hk
    obtain ⟨-, -, -, -, ⟨p5, p6⟩, -⟩ := id p2
    exact ⟨p, p1, p2.ag (ag9 _ _ (by omega)) (Nat.le_refl _), p3.ag (ag9 _ _ (by omega)), p4⟩

theorem fil_b {c : Nat} {h : MHp} (L : CL c h) (a b : Int32) (v : Int32) (hv : ¬ v = 0) : mX11_fill_b47 h c a b (some c) v = some (-1, sI h c 15 v) := by
  have K : hK (sI h c 15 v) c = 12 := lK0 L
  rw [mX11_fill_b47, b_pI, if_pos (lK0 L), b_gI, if_pos K, e_Iself, if_neg hv]

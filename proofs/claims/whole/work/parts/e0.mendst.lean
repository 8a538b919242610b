/-! mending: the state -/
def mdA (A : AS) (row M : Nat) (g7 : Nat → Int32) : AS := setA (setA (setA A 3 (va_up (aA A 3) row (aS A 3))) 9 (va_up (aA A 9) row (Int32.ofNat M))) 7 g7
theorem WA.gv {A : AS} (W : WA A) (v : Int32) : WA (setS A 4 v) := W
theorem WA.md {A : AS} (W : WA A) {row M : Nat} {g7 : Nat → Int32} (h4 : aA A 4 row = -2) (hM : ∀ f : Nat, f < bF (aB A) → mb (Int32.ofNat M) f = true → aA A 6 (row * 6 + f) ≠ -1 ∧ 0 ≤ g7 (row * 6 + f) ∧ g7 (row * 6 + f) ≤ Int32.ofNat (bT (aB A) f)) (og : ∀ j : Nat, j < row * 6 ∨ row * 6 + 6 ≤ j → g7 j = aA A 7 j) : WA (mdA A row M g7) := by
  obtain ⟨v1, v2, v3, v4, v5, v6, v7, v8, v9, v10, v11⟩ := W
  have w6 := v1.1
  refine ⟨v1, v2, v3, v4, v5, v6, v7, v8, v9, fun r2 hr2 => ?_, v11⟩
  obtain ⟨u1, u2, u3, u4, u5, u6, u7, u8, u9, u10, u11, u12⟩ := v10 r2 hr2
  refine ⟨u1, u2, u3, ?_, u5, u6, ?_, u8, u9, u10, fun f hf => ⟨(u11 f hf).1, (u11 f hf).2.1, ?_, (u11 f hf).2.2.2⟩, fun hh => ?_⟩
  · show va_up (aA A 3) row (aS A 3) r2 ≤ aS A 3
    rw [e_up]
    by_cases q : r2 = row
    · rw [if_pos q]; exact Int32.le_refl _
    · rw [if_neg q]; exact u4
  · show va_up (aA A 3) row (aS A 3) r2 ≠ -2 → 0 ≤ va_up (aA A 3) row (aS A 3) r2
    rw [e_up]
    by_cases q : r2 = row
    · rw [if_pos q]; intro _; exact v8
    · rw [if_neg q]; exact u7
  · have hf2 : f < bF (aB A) := hf
    show va_up (aA A 3) row (aS A 3) r2 ≠ -2 → mb (va_up (aA A 9) row (Int32.ofNat M) r2) f = true → aA A 6 (r2 * 6 + f) ≠ -1 ∧ 0 ≤ g7 (r2 * 6 + f) ∧ g7 (r2 * 6 + f) ≤ Int32.ofNat (bT (aB A) f)
    rw [e_up, e_up]
    by_cases q : r2 = row
    · subst q
      rw [if_pos rfl, if_pos rfl]
      intro _ hm
      exact hM f hf2 hm
    · rw [if_neg q, if_neg q, og _ (by omega)]
      exact (u11 f hf).2.2.1
  · have hh2 : aA A 4 r2 ≠ -2 := hh
    have q : ¬ r2 = row := fun e => hh2 (by rw [e]; exact h4)
    show bB (aB A) (fun f => vA (mdA A row M g7) r2 f (aS A 3) 0) = bN (aB A)
    rw [← u12 hh2]
    refine bB_congr v1 (fun f hf => ?_)
    have hf2 : f < bF (aB A) := hf
    show vA (mdA A row M g7) r2 f (aS A 3) 0 = vA A r2 f (aS A 3) 0
    unfold vA
    show (if (sn (va_up (aA A 3) row (aS A 3) r2) (aS A 3) && mb (va_up (aA A 9) row (Int32.ofNat M) r2) f) = true then g7 (r2 * 6 + f) else _) = _
    rw [e_up, if_neg q, e_up, if_neg q, og _ (by omega)]
    rfl

theorem CR.gv {c : Nat} {h : MHp} {A : AS} (W : WA A) (C : CR c h A) (v : Int32) : CR c (sI h (c + 185) 1 v) (setS A 4 v) := by
  have h8 := W.2.2.1
  have hw := W.1.2.1
  obtain ⟨⟨b9, s9, x1, x2, x3, x4, x5, x6⟩, ⟨y1, y2, y3, y4, y5, y6, y7, y8, y9⟩, ⟨z1, z2, z3, z4, z5, z6, z7, z8, z9, z10, z11, z12⟩, w1, w2, w3, w4⟩ := C
  have gI : ∀ a j : Nat, (a ≠ (c + 185) ∨ j ≠ 1) → hI (sI h (c + 185) 1 v) a j = hI h a j := by
    intro a j d
    rw [e_sI, if_neg (by omega)]
  have ag9 : ∀ lo hi : Nat, ((c + 185) < lo ∨ hi ≤ (c + 185)) → Ag lo hi h (sI h (c + 185) 1 v) := fun lo hi d => Ag.I _ _ _ (by omega)
  refine ⟨⟨b9, s9, x1, x2, x3, x4, x5.ag (ag9 _ _ (by omega)) hw, x6⟩, ⟨(by rw [gI _ _ (by omega)]; exact y1), (by rw [gI _ _ (by omega)]; exact y2), (by rw [gI _ _ (by omega)]; exact y3), (by rw [gI _ _ (by omega)]; exact y4), (by rw [gI _ _ (by omega)]; exact y5), (by rw [gI _ _ (by omega)]; exact y6), (by rw [gI _ _ (by omega)]; exact y7), (by rw [e_sI, if_pos ⟨rfl, rfl⟩]; rfl), (by rw [gI _ _ (by omega)]; exact y9)⟩, ⟨z1, z2, z3, z4, z5, z6, z7, z8, z9, z10, z11, z12⟩, w1, w2, (by rw [gI _ 0 (by omega), gI _ 2 (by omega)]; exact w3), fun k9 hk => (fun (hk2 : k9 < aN A 1) => ⟨(w4 k9 hk2).1.ag (ag9 _ _ (by omega)), (w4 k9 hk2).2.ag (ag9 _ _ (by omega))⟩) hk⟩

theorem CR.md {c : Nat} {h : MHp} {A : AS} (W : WA A) (C : CR c h A) {row M : Nat} {g7 w : Nat → Int32} (hrow : row < 60) (hw9 : ∀ f : Nat, f < bF (aB A) → w f = if mb (Int32.ofNat M) f = true then g7 (row * 6 + f) else aA A 6 (row * 6 + f)) (og : ∀ j : Nat, j < row * 6 ∨ row * 6 + 6 ≤ j → g7 j = aA A 7 j) : CR c (sAI (sAI h (c + 116) (va_cpy w (hAI h (c + 116)) 0 (row * 6) 6)) (c + 112) (va_up (hAI h (c + 112)) row (aS A 3))) (mdA A row M g7) := by
  have h8 := W.2.2.1
  have hw := W.1.2.1
  obtain ⟨⟨b9, s9, x1, x2, x3, x4, x5, x6⟩, ⟨y1, y2, y3, y4, y5, y6, y7, y8, y9⟩, ⟨z1, z2, z3, z4, z5, z6, z7, z8, z9, z10, z11, z12⟩, w1, w2, w3, w4⟩ := C
  have ga : ∀ a : Nat, a ≠ (c + 116) ∧ a ≠ (c + 112) → hAI (sAI (sAI h (c + 116) (va_cpy w (hAI h (c + 116)) 0 (row * 6) 6)) (c + 112) (va_up (hAI h (c + 112)) row (aS A 3))) a = hAI h a := by
    intro a d
    rw [e_sAI, if_neg (by omega)]
    rw [e_sAI, if_neg (by omega)]
  have ag9 : ∀ lo hi : Nat, ((c + 112) < lo ∨ hi ≤ (c + 112)) ∧ ((c + 116) < lo ∨ hi ≤ (c + 116)) → Ag lo hi h (sAI (sAI h (c + 116) (va_cpy w (hAI h (c + 116)) 0 (row * 6) 6)) (c + 112) (va_up (hAI h (c + 112)) row (aS A 3))) := fun lo hi d => (Ag.AI _ _ (by omega)).tr (Ag.AI _ _ (by omega))
  refine ⟨⟨b9, s9, x1, x2, x3, x4, x5.ag (ag9 _ _ (by omega)) hw, x6⟩, ⟨y1, y2, y3, y4, y5, y6, y7, y8, y9⟩, ⟨(by rw [ga _ (by omega)]; exact z1), (by rw [ga _ (by omega)]; exact z2), (by rw [ga _ (by omega)]; exact z3), (by rw [ga _ (by omega)]; exact z4), (by rw [ga _ (by omega)]; exact z5), (by rw [ga _ (by omega)]; exact z6), (by rw [ga _ (by omega)]; exact z7), (by simp only [e_sAI, Nat.add_left_cancel_iff, Nat.reduceEqDiff, if_false, if_true]; rw [z8]; rfl), (by rw [ga _ (by omega)]; exact z9), (by rw [ga _ (by omega)]; exact z10), (by rw [ga _ (by omega)]; exact z11), (by rw [ga _ (by omega)]; exact z12)⟩, ?_, (by rw [ga _ (by omega)]; exact w2), (by rw [ga (c + 207) (by omega)]; exact w3), fun k9 hk => (fun (hk2 : k9 < aN A 1) => ⟨(w4 k9 hk2).1.ag (ag9 _ _ (by omega)), (w4 k9 hk2).2.ag (ag9 _ _ (by omega))⟩) hk⟩
  · intro r hr f hf
    have hr2 : r < aN A 2 := hr
    have hf2 : f < bF (aB A) := hf
    have h6 := W.1.1
    simp only [e_sAI, Nat.add_left_cancel_iff, Nat.reduceEqDiff, if_false, if_true]
    show (va_up (aA A 3) row (aS A 3) r ≠ -2 → va_cpy w (hAI h (c + 116)) 0 (row * 6) 6 (r * 6 + f) = if mb (va_up (aA A 9) row (Int32.ofNat M) r) f = true then g7 (r * 6 + f) else aA A 6 (r * 6 + f)) ∧ (aA A 4 r ≠ -2 → aA A 6 (r * 6 + f) = -1 → ∀ fil : Nat, fil < 5 → hAI h (c + 117) (fil * 360 + (r * 6 + f)) = aA A 8 (6 * (5 * r + fil) + f))
    rw [e_up, e_up]
    by_cases q : r = row
    · subst q
      rw [if_pos rfl, if_pos rfl]
      refine ⟨fun _ => ?_, (w1 r hr2 f hf2).2⟩
      unfold va_cpy
      rw [if_pos (by omega), show 0 + (r * 6 + f - r * 6) = f by omega]
      exact hw9 f hf2
    · rw [if_neg q, if_neg q, og _ (by omega)]
      unfold va_cpy
      rw [if_neg (by omega)]
      exact w1 r hr2 f hf2

theorem RR.md {m : Nat} {h : MHp} {A : AS} (C : RR m h A) (row M : Nat) (g7 : Nat → Int32) (gv : Int32) (W : WA A) : RR m (sI (sAI (sAI (sAI h (m + 5) g7) (m + 10) (va_up (hAI h (m + 10)) row (Int32.ofNat M))) (m + 9) (va_up (hAI h (m + 9)) row (aS A 3))) m 32 gv) (setS (mdA A row M g7) 4 gv) := by
  obtain ⟨x0q, ⟨y1, y2, y3, y4, y5, y6, y7, y8, y9, y10, y11, y12, y13, y14⟩, ⟨z1, z2, z3, z4, z5, z6, z7, z8, z9⟩, w1, w2, w3⟩ := C
  have gI : ∀ a j : Nat, (a ≠ m ∨ j ≠ 32) → hI (sI (sAI (sAI (sAI h (m + 5) g7) (m + 10) (va_up (hAI h (m + 10)) row (Int32.ofNat M))) (m + 9) (va_up (hAI h (m + 9)) row (aS A 3))) m 32 gv) a j = hI h a j := by
    intro a j d
    rw [e_sI, if_neg (by omega)]
    rw [e_I_sAI]
    rw [e_I_sAI]
    rw [e_I_sAI]
  have ga : ∀ a : Nat, a ≠ (m + 5) ∧ a ≠ (m + 10) ∧ a ≠ (m + 9) → hAI (sI (sAI (sAI (sAI h (m + 5) g7) (m + 10) (va_up (hAI h (m + 10)) row (Int32.ofNat M))) (m + 9) (va_up (hAI h (m + 9)) row (aS A 3))) m 32 gv) a = hAI h a := by
    intro a d
    rw [e_AI_sI]
    rw [e_sAI, if_neg (by omega)]
    rw [e_sAI, if_neg (by omega)]
    rw [e_sAI, if_neg (by omega)]
  have ag9 : ∀ lo hi : Nat, (m < lo ∨ hi ≤ m) ∧ ((m + 10) < lo ∨ hi ≤ (m + 5)) → Ag lo hi h (sI (sAI (sAI (sAI h (m + 5) g7) (m + 10) (va_up (hAI h (m + 10)) row (Int32.ofNat M))) (m + 9) (va_up (hAI h (m + 9)) row (aS A 3))) m 32 gv) := fun lo hi d => (((Ag.AI _ _ (by omega)).tr (Ag.AI _ _ (by omega))).tr (Ag.AI _ _ (by omega))).tr (Ag.I _ _ _ (by omega))
  refine ⟨x0q.ag (ag9 _ _ (by omega)) (Nat.le_refl _) x0q.1 rfl, ⟨(by rw [gI _ _ (by omega)]; exact y1), (by rw [gI _ _ (by omega)]; exact y2), (by rw [gI _ _ (by omega)]; exact y3), (by rw [gI _ _ (by omega)]; exact y4), (by rw [gI _ _ (by omega)]; exact y5), (by rw [gI _ _ (by omega)]; exact y6), (by rw [gI _ _ (by omega)]; exact y7), (by rw [gI _ _ (by omega)]; exact y8), (by rw [e_sI, if_pos ⟨rfl, rfl⟩]; rfl), (by rw [gI _ _ (by omega)]; exact y10), (by rw [gI _ _ (by omega)]; exact y11), (by rw [gI _ _ (by omega)]; exact y12), (by rw [gI _ _ (by omega)]; exact y13), (by rw [gI _ _ (by omega)]; exact y14)⟩, ⟨(by rw [ga _ (by omega)]; exact z1), (by rw [ga _ (by omega)]; exact z2), (by simp only [e_AI_sI, e_sAI, Nat.add_left_cancel_iff, Nat.reduceEqDiff, if_false, if_true]; rfl), (by rw [ga _ (by omega)]; exact z4), (by rw [ga _ (by omega)]; exact z5), ?_, (by simp only [e_AI_sI, e_sAI, Nat.add_left_cancel_iff, Nat.reduceEqDiff, if_false, if_true]; rw [z7]; rfl), (by rw [ga _ (by omega)]; exact z8), (by rw [ga _ (by omega)]; exact z9)⟩, (by rw [ga _ (by omega)]; exact w1), (by rw [ga _ (by omega)]; exact w2), ?_⟩
  · intro r2 hr2
    obtain ⟨q1, q2, q3⟩ := z6 r2 hr2
    simp only [e_AI_sI, e_sAI, Nat.add_left_cancel_iff, Nat.reduceEqDiff, if_false, if_true]
    refine ⟨q1, ?_, q3⟩
    show va_up (hAI h (m + 9)) row (aS A 3) r2 = un2 (va_up (aA A 3) row (aS A 3) r2)
    rw [e_up, e_up]
    by_cases q : r2 = row
    · rw [if_pos q, if_pos q, un2_n]
      intro e
      have v8 := W.2.2.2.2.2.2.2.1
      rw [e] at v8
      exact absurd v8 (by decide)
    · rw [if_neg q, if_neg q]; exact q2
  · intro k hk
    obtain ⟨p, p1, p2, p3, p4⟩ := w3 k hk
    obtain ⟨-, -, -, -, ⟨p5, p6⟩, -⟩ := id p2
    exact ⟨p, p1, p2.ag (ag9 _ _ (by omega)) (Nat.le_refl _), p3.ag (ag9 _ _ (by omega)), p4⟩

theorem mnd_b {c : Nat} {h : MHp} (L : CL c h) (a : Int32) (v : Int32) (hv : ¬ v = 0) : mX11_mend_b32 h c a (some c) v = some (-1, sI h c 15 v) := by
  have K : hK (sI h c 15 v) c = 12 := lK0 L
  rw [mX11_mend_b32, b_pI, if_pos (lK0 L), b_gI, if_pos K, e_Iself, if_neg hv]

/-! known, set, lot -/
theorem j_fill_l5 {h : MHp} {a n : Nat} {v : Int32} (hk : hK h a = 20) (hn : hN h a = n) (hn2 : n ≤ 2000) : ∀ (q fu i : Nat) (g : Nat → Int32), i + q = n → q < fu → mJ7_fill_53178_l5 fu (sAI h a g) (some a) v (Int32.ofNat i) (Int32.ofNat n) = some (sAI h a (fun j => if i ≤ j ∧ j < n then v else g j)) := by
  intro q
  induction q with
  | zero =>
    intro fu i g hi hf
    obtain ⟨fu, rfl⟩ : ∃ g : Nat, fu = g + 1 := ⟨fu - 1, by omega⟩
    have e : Int32.ofNat n ≤ Int32.ofNat i := by rw [le_of (by omega) (by omega)]; omega
    have e2 : (fun j => if i ≤ j ∧ j < n then v else g j) = g := by funext j; rw [if_neg (by omega)]
    rw [mJ7_fill_53178_l5, if_pos e, e2]
  | succ q ih =>
    intro fu i g hi hf
    obtain ⟨fu, rfl⟩ : ∃ g : Nat, fu = g + 1 := ⟨fu - 1, by omega⟩
    have e : ¬ Int32.ofNat n ≤ Int32.ofNat i := by rw [le_of (by omega) (by omega)]; omega
    have e2 := ih fu (i + 1) (va_up g i v) (by omega) (by omega)
    have e3 : (fun j => if i + 1 ≤ j ∧ j < n then v else va_up g i v j) = (fun j => if i ≤ j ∧ j < n then v else g j) := by
      funext j
      by_cases q : j = i
      · subst q; rw [if_neg (by omega), if_pos (by omega), va_up, if_pos rfl]
      · by_cases q2 : i + 1 ≤ j ∧ j < n
        · rw [if_pos q2, if_pos (by omega)]
        · rw [if_neg q2, if_neg (by omega), va_up, if_neg q]
    rw [e3] at e2
    have bb : bad (Int32.ofNat i) n = false := bad_of (by omega) (by omega)
    simp (maxSteps := 3000000) (disch := omega) only [mJ7_fill_53178_l5, e, e_K_sAI, e_N_sAI, hk, hn, bb, cl_of, s1_of, e_sAI, e_AI2, e2, ↓o_bind, o_map, ↓b_rcv, ↓b_gI, ↓b_gL, ↓b_gR, ↓b_gN, ↓b_pI, ↓b_pL, ↓b_pR, ↓b_gAI, ↓b_gAL, ↓b_gAR, ↓b_pAI, ↓b_pAL, bad_of, bad_l, Bool.false_eq_true, ↓reduceIte, Int32.reduceLT, Int32.reduceLE, Int32.reduceToNatClampNeg, Int32.reduceOfNat, Int32.reduceAdd, Int32.reduceSub, Int32.reduceMul, Nat.reduceAdd, Nat.reduceMul, Nat.reduceEqDiff]
theorem j_fill {h : MHp} {a n : Nat} {v : Int32} (hk : hK h a = 20) (hn : hN h a = n) (hn2 : n ≤ 2000) : mJ7_fill_53178 h (some a) v = some (sAI h a (fun j => if j < n then v else hAI h a j)) := by
  have e := j_fill_l5 (v := v) hk hn hn2 n FUEL 0 (hAI h a) (by omega) (by unfold FUEL; omega)
  rw [e_AIself] at e
  rw [mJ7_fill_53178, b_gN, if_pos hk, hn]
  have e3 : (fun j => if 0 ≤ j ∧ j < n then v else hAI h a j) = (fun j => if j < n then v else hAI h a j) := by funext j; simp
  rw [e3] at e
  exact e
def knA (A : AS) (f v : Nat) (s : Int32) : AS := setS (setA A 10 (va_up (if aS A 5 = Int32.ofNat f then aA A 10 else fun _ => 0) v s)) 5 (Int32.ofNat f)
theorem WA.kn {A : AS} (W : WA A) {f v : Nat} {s : Int32} (hf : f < bF (aB A)) (ht : bT (aB A) f ≤ 2) (hs : 0 ≤ s ∧ s ≤ 1000000) : WA (knA A f v s) := by
  obtain ⟨v1, v2, v3, v4, v5, v6, v7, v8, v9, v10, v11, v12⟩ := W
  refine ⟨v1, v2, v3, v4, v5, v6, fun h0 => ?_, v8, v9, v10, Or.inr ⟨f, hf, rfl, ht, fun u hu => ?_⟩, v12⟩
  · have h1 : bF (aB A) = 0 := h0
    omega
  · show 0 ≤ va_up (if aS A 5 = Int32.ofNat f then aA A 10 else fun _ => 0) v s u ∧ va_up (if aS A 5 = Int32.ofNat f then aA A 10 else fun _ => 0) v s u ≤ 1000000
    rw [e_up]
    by_cases q : u = v
    · rw [if_pos q]; exact hs
    · rw [if_neg q]
      by_cases q2 : aS A 5 = Int32.ofNat f
      · rw [if_pos q2]
        rcases v11 with h5 | ⟨g, hg, h6, h7, h8⟩
        · rw [h5] at q2
          exact absurd q2.symm (nm_of (by have := v1.1; omega))
        · exact h8 u hu
      · rw [if_neg q2]; exact ⟨by decide, by decide⟩

theorem CR.kn {c : Nat} {h : MHp} {A : AS} (W : WA A) (C : CR c h A) (f v : Nat) (s : Int32) (g : Nat → Int32) (hg : ∀ u : Nat, u < 3 → va_up g v s u = va_up (if aS A 5 = Int32.ofNat f then aA A 10 else fun _ => 0) v s u) : CR c (sAI (sI h (c + 194) 1 (Int32.ofNat f)) (c + 195) (va_up g v s)) (knA A f v s) := by
  have h8 := W.2.2.1
  have hw := W.1.2.1
  obtain ⟨⟨b9, s9, x1, x2, x3, x4, x5, x6⟩, ⟨y1, y2, y3, y4, y5, y6, y7, y8, y9⟩, ⟨z1, z2, z3, z4, z5, z6, z7, z8, z9, z10, z11, z12⟩, w1, w2, w3, w4⟩ := C
  have gI : ∀ a j : Nat, (a ≠ (c + 194) ∨ j ≠ 1) → hI (sAI (sI h (c + 194) 1 (Int32.ofNat f)) (c + 195) (va_up g v s)) a j = hI h a j := by
    intro a j d
    rw [e_I_sAI]
    rw [e_sI, if_neg (by omega)]
  have ga : ∀ a : Nat, a ≠ (c + 195) → hAI (sAI (sI h (c + 194) 1 (Int32.ofNat f)) (c + 195) (va_up g v s)) a = hAI h a := by
    intro a d
    rw [e_sAI, if_neg (by omega)]
    rw [e_AI_sI]
  have ag9 : ∀ lo hi : Nat, ((c + 194) < lo ∨ hi ≤ (c + 194)) ∧ ((c + 195) < lo ∨ hi ≤ (c + 195)) → Ag lo hi h (sAI (sI h (c + 194) 1 (Int32.ofNat f)) (c + 195) (va_up g v s)) := fun lo hi d => (Ag.I _ _ _ (by omega)).tr (Ag.AI _ _ (by omega))
  refine ⟨⟨b9, s9, x1, x2, x3, x4, x5.ag (ag9 _ _ (by omega)) hw, x6⟩, ⟨(by rw [gI _ _ (by omega)]; exact y1), (by rw [gI _ _ (by omega)]; exact y2), (by rw [gI _ _ (by omega)]; exact y3), (by rw [gI _ _ (by omega)]; exact y4), (by rw [gI _ _ (by omega)]; exact y5), (by rw [gI _ _ (by omega)]; exact y6), (by rw [gI _ _ (by omega)]; exact y7), (by rw [gI _ _ (by omega)]; exact y8), (by rw [e_I_sAI, e_sI, if_pos ⟨rfl, rfl⟩]; rfl)⟩, ⟨(by rw [ga _ (by omega)]; exact z1), (by rw [ga _ (by omega)]; exact z2), (by rw [ga _ (by omega)]; exact z3), (by rw [ga _ (by omega)]; exact z4), (by rw [ga _ (by omega)]; exact z5), (by rw [ga _ (by omega)]; exact z6), (by rw [ga _ (by omega)]; exact z7), (by rw [ga _ (by omega)]; exact z8), (by rw [ga _ (by omega)]; exact z9), (by rw [ga _ (by omega)]; exact z10), (by rw [ga _ (by omega)]; exact z11), (by rw [ga _ (by omega)]; exact z12)⟩, (by rw [ga _ (by omega), ga _ (by omega)]; exact w1), (by intro _ u hu; rw [e_sAI, if_pos rfl]; exact hg u hu), (by rw [gI _ 0 (by omega), gI _ 2 (by omega), ga (c + 207) (by omega)]; exact w3), fun k9 hk => (fun (hk2 : k9 < aN A 1) => ⟨(w4 k9 hk2).1.ag (ag9 _ _ (by omega)), (w4 k9 hk2).2.ag (ag9 _ _ (by omega))⟩) hk⟩

theorem RR.kn {m : Nat} {h : MHp} {A : AS} (C : RR m h A) (f v : Nat) (s : Int32) (g : Nat → Int32) (hg : ∀ u : Nat, u < 3 → va_up g v s u = va_up (if aS A 5 = Int32.ofNat f then aA A 10 else fun _ => 0) v s u) : RR m (sAI (sI h m 34 (Int32.ofNat f)) (m + 17) (va_up g v s)) (knA A f v s) := by
  obtain ⟨x, ⟨y1, y2, y3, y4, y5, y6, y7, y8, y9, y10, y11, y12, y13, y14⟩, ⟨z1, z2, z3, z4, z5, z6, z7, z8, z9⟩, w1, w2, w3⟩ := C
  have gI : ∀ a j : Nat, (a ≠ m ∨ j ≠ 34) → hI (sAI (sI h m 34 (Int32.ofNat f)) (m + 17) (va_up g v s)) a j = hI h a j := by
    intro a j d
    rw [e_I_sAI]
    rw [e_sI, if_neg (by omega)]
  have ga : ∀ a : Nat, a ≠ (m + 17) → hAI (sAI (sI h m 34 (Int32.ofNat f)) (m + 17) (va_up g v s)) a = hAI h a := by
    intro a d
    rw [e_sAI, if_neg (by omega)]
    rw [e_AI_sI]
  have ag9 : ∀ lo hi : Nat, (m < lo ∨ hi ≤ m) ∧ ((m + 17) < lo ∨ hi ≤ (m + 17)) → Ag lo hi h (sAI (sI h m 34 (Int32.ofNat f)) (m + 17) (va_up g v s)) := fun lo hi d => (Ag.I _ _ _ (by omega)).tr (Ag.AI _ _ (by omega))
  refine ⟨x.ag (ag9 _ _ (by omega)) (Nat.le_refl _) x.1 rfl, ⟨(by rw [gI _ _ (by omega)]; exact y1), (by rw [gI _ _ (by omega)]; exact y2), (by rw [gI _ _ (by omega)]; exact y3), (by rw [gI _ _ (by omega)]; exact y4), (by rw [gI _ _ (by omega)]; exact y5), (by rw [gI _ _ (by omega)]; exact y6), (by rw [gI _ _ (by omega)]; exact y7), (by rw [gI _ _ (by omega)]; exact y8), (by rw [gI _ _ (by omega)]; exact y9), (by rw [e_I_sAI, e_sI, if_pos ⟨rfl, rfl⟩]; rfl), (by rw [gI _ _ (by omega)]; exact y11), (by rw [gI _ _ (by omega)]; exact y12), (by rw [gI _ _ (by omega)]; exact y13), (by rw [gI _ _ (by omega)]; exact y14)⟩, ⟨(by rw [ga _ (by omega)]; exact z1), (by rw [ga _ (by omega)]; exact z2), (by rw [ga _ (by omega)]; exact z3), (by rw [ga _ (by omega)]; exact z4), (by rw [ga _ (by omega)]; exact z5), (by rw [ga _ (by omega), ga _ (by omega), ga _ (by omega)]; exact z6), (by rw [ga _ (by omega)]; exact z7), (by rw [ga _ (by omega)]; exact z8), (by rw [ga _ (by omega)]; exact z9)⟩, (by intro _ u hu; rw [e_sAI, if_pos rfl]; exact hg u hu), (by rw [ga _ (by omega)]; exact w2), ?_⟩
  · intro k hk
    obtain ⟨p, p1, p2, p3, p4⟩ := w3 k hk
    obtain ⟨-, -, -, -, ⟨p5, p6⟩, -⟩ := id p2
    exact ⟨p, p1, p2.ag (ag9 _ _ (by omega)) (Nat.le_refl _), p3.ag (ag9 _ _ (by omega)), p4⟩

theorem knw_b {c : Nat} {h : MHp} (L : CL c h) (f u s : Int32) (v : Int32) (hv : ¬ v = 0) : mX11_known_b55 h c f u s (some c) v = some (0, sI h c 15 v) := by
  have K : hK (sI h c 15 v) c = 12 := lK0 L
  rw [mX11_known_b55, b_pI, if_pos (lK0 L), b_gI, if_pos K, e_Iself, if_neg hv]

theorem r_known {m q u : Nat} {s : Int32} {h : MHp} (L : QL m h) (hu : u < 10) : mX16_known_b104 h m (Int32.ofNat q) (Int32.ofNat u) s = some (1, rtb m (sAI (sI h m 34 (Int32.ofNat q)) (m + 17) (va_up (hAI h (m + 17)) u s)) 0) := by
  have e5 := q_granted (h := sAI (sI h m 34 (Int32.ofNat q)) (m + 17) (va_up (hAI h (m + 17)) u s)) L
  simp (maxSteps := 3000000) (disch := omega) only [mX16_known_b104, qK0 L, e_K_sI, e_R_sI, e_N_sI, e_AI_sI, qR35 L, qK17 L, qN17 L, cl_of, e_K_sAI, e5, rB1, ↓o_bind, o_map, ↓b_rcv, ↓b_gI, ↓b_gL, ↓b_gR, ↓b_gN, ↓b_pI, ↓b_pL, ↓b_pR, ↓b_gAI, ↓b_gAL, ↓b_gAR, ↓b_pAI, ↓b_pAL, bad_of, bad_l, Bool.false_eq_true, ↓reduceIte, Int32.reduceLT, Int32.reduceLE, Int32.reduceToNatClampNeg, Int32.reduceOfNat, Int32.reduceAdd, Int32.reduceSub, Int32.reduceMul, Nat.reduceAdd, Nat.reduceMul, Nat.reduceEqDiff]
theorem r_known_l {m q u : Nat} {s : Int32} {h : MHp} (L : QL m h) (hu : u < 10) : ∀ (p fu i : Nat) (g : Nat → Int32), i + p = 10 → p < fu → mX16_known_l83 fu (sAI h (m + 17) g) m (Int32.ofNat q) (Int32.ofNat u) s (Int32.ofNat i) = some (1, rtb m (sAI (sI h m 34 (Int32.ofNat q)) (m + 17) (va_up (fun j => if i ≤ j ∧ j < 10 then 0 else g j) u s)) 0) := by
  intro p
  induction p with
  | zero =>
    intro fu i g hi hf
    obtain ⟨fu, rfl⟩ : ∃ g : Nat, fu = g + 1 := ⟨fu - 1, by omega⟩
    have e : (10 : Int32) ≤ Int32.ofNat i := by rw [show (10 : Int32) = Int32.ofNat 10 from rfl, le_of (by omega) (by omega)]; omega
    have e2 : (fun j => if i ≤ j ∧ j < 10 then 0 else g j) = g := by funext j; rw [if_neg (by omega)]
    have e3 : sI (sAI h (m + 17) g) m 34 (Int32.ofNat q) = sAI (sI h m 34 (Int32.ofNat q)) (m + 17) g := (rfl)
    rw [mX16_known_l83, if_pos e, e2, r_known (show QL m (sAI h (m + 17) g) from L) hu, e3, e_AI2, e_sAI, if_pos rfl]
  | succ p ih =>
    intro fu i g hi hf
    obtain ⟨fu, rfl⟩ : ∃ g : Nat, fu = g + 1 := ⟨fu - 1, by omega⟩
    have e : ¬ (10 : Int32) ≤ Int32.ofNat i := by rw [show (10 : Int32) = Int32.ofNat 10 from rfl, le_of (by omega) (by omega)]; omega
    have e2 := ih fu (i + 1) (va_up g i 0) (by omega) (by omega)
    have e3 : (fun j => if i + 1 ≤ j ∧ j < 10 then 0 else va_up g i 0 j) = (fun j => if i ≤ j ∧ j < 10 then 0 else g j) := by
      funext j
      by_cases q : j = i
      · subst q; rw [if_neg (by omega), if_pos (by omega), va_up, if_pos rfl]
      · by_cases q2 : i + 1 ≤ j ∧ j < 10
        · rw [if_pos q2, if_pos (by omega)]
        · rw [if_neg q2, if_neg (by omega), va_up, if_neg q]
    rw [e3] at e2
    simp (maxSteps := 3000000) (disch := omega) only [mX16_known_l83, e, qK0 L, e_K_sAI, e_R_sAI, e_N_sAI, qR35 L, qK17 L, qN17 L, cl_of, s1_of, e_sAI, e_AI2, e2, ↓o_bind, o_map, ↓b_rcv, ↓b_gI, ↓b_gL, ↓b_gR, ↓b_gN, ↓b_pI, ↓b_pL, ↓b_pR, ↓b_gAI, ↓b_gAL, ↓b_gAR, ↓b_pAI, ↓b_pAL, bad_of, bad_l, Bool.false_eq_true, ↓reduceIte, Int32.reduceLT, Int32.reduceLE, Int32.reduceToNatClampNeg, Int32.reduceOfNat, Int32.reduceAdd, Int32.reduceSub, Int32.reduceMul, Nat.reduceAdd, Nat.reduceMul, Nat.reduceEqDiff]
theorem x_known {c m : Nat} {h : MHp} {A : AS} (C : CR c h A) (W : WA A) (f v g : Int32) : XS c m h A (mX11_known h c f v g) (fun h1 => mX16_known h1 m f v g) := by
  obtain ⟨b, G⟩ := C.rg W
  have L := C.l
  have g1 := G.2.1
  have i1 := G.ib.1
  by_cases hv : isV A f v
  · obtain ⟨q, u, hq, hu, rfl, rfl⟩ := hv
    have e1 := p_hasValue1 G hq hu
    have e2 := p_topOf G hq
    have w6 := W.1.1
    have wt := W.1.2.2.1 q hq
    have ref : ∀ (t : Int32), t ≠ 4 → (∀ h2 : MHp, RR m h2 A → mX16_known h2 m (Int32.ofNat q) (Int32.ofNat u) g = some (0, rtb m (sI h2 m 0 0) t)) → mX11_known h c (Int32.ofNat q) (Int32.ofNat u) g = some (0, sI h c 15 t) → XS c m h A (mX11_known h c (Int32.ofNat q) (Int32.ofNat u) g) (fun h1 => mX16_known h1 m (Int32.ofNat q) (Int32.ofNat u) g) := by
      intro t ht hg hc
      exact XS.no (v := 0) t ht C W (fun _ _ => Or.inr trivial) hc (fun h1 R => ⟨sI h1 m 0 0, Rs.I 0 0 (by decide), hg h1 R⟩)
    by_cases hg : 0 ≤ g ∧ g ≤ 1000000
    · by_cases ht : bT (aB A) q ≤ 2
      · have ht2 : Int32.ofNat (bT (aB A) q) ≤ 2 := by rw [show (2 : Int32) = Int32.ofNat 2 from rfl, le_of (by omega) (by omega)]; omega
        have ya : hI (sI h c 15 0) (c + 194) 1 = aS A 5 := (C.tb (t := 0) (by decide)).2.1.2.2.2.2.2.2.2.2
        have hz : ∀ g0 : Nat → Int32, (∀ j : Nat, j < 3 → g0 j = 0) → ¬ aS A 5 = Int32.ofNat q → ∀ j : Nat, j < 3 → va_up g0 u g j = va_up (if aS A 5 = Int32.ofNat q then aA A 10 else fun _ => 0) u g j := by
          intro g0 h0 hne j hj
          rw [if_neg hne, e_up, e_up]
          by_cases qq : j = u
          · rw [if_pos qq, if_pos qq]
          · rw [if_neg qq, if_neg qq]; exact h0 j hj
        have hy : ∀ g0 : Nat → Int32, (∀ j : Nat, j < 3 → g0 j = aA A 10 j) → aS A 5 = Int32.ofNat q → ∀ j : Nat, j < 3 → va_up g0 u g j = va_up (if aS A 5 = Int32.ofNat q then aA A 10 else fun _ => 0) u g j := by
          intro g0 h0 hne j hj
          rw [if_pos hne, e_up, e_up]
          by_cases qq : j = u
          · rw [if_pos qq, if_pos qq]
          · rw [if_neg qq, if_neg qq]; exact h0 j hj
        have nz5 : aS A 5 = Int32.ofNat q → aS A 5 ≠ -1 := fun e => by rw [e]; exact nm_of (by omega)
        -- the class
        have hcls : ∃ g0 : Nat → Int32, (∀ j : Nat, j < 3 → va_up g0 u g j = va_up (if aS A 5 = Int32.ofNat q then aA A 10 else fun _ => 0) u g j) ∧ mX11_known h c (Int32.ofNat q) (Int32.ofNat u) g = some (1, sAI (sI (sI h c 15 0) (c + 194) 1 (Int32.ofNat q)) (c + 195) (va_up g0 u g)) := by
          have k1 : ¬ Int32.ofNat u < 0 := by rw [nn_of (by omega)]; exact not_false
          have k2 : ¬ (3 : Int32) ≤ Int32.ofNat u := by rw [show (3 : Int32) = Int32.ofNat 3 from rfl, le_of (by omega) (by omega)]; omega
          by_cases h5 : aS A 5 = Int32.ofNat q
          · refine ⟨hAI h (c + 195), hy _ (C.2.2.2.2.1 (nz5 h5)) h5, ?_⟩
            have h6 := h5.symm
            simp (maxSteps := 3000000) (disch := omega) only [mX11_known, lK0 L, lR0_2 L, lK56 L, g1, i1, e1, n10, p_within, hg, and_self, e2, ht2, ↓o_bind, o_map, ↓b_rcv, ↓b_gI, ↓b_gL, ↓b_gR, ↓b_gN, ↓b_pI, ↓b_pL, ↓b_pR, ↓b_gAI, ↓b_gAL, ↓b_gAR, ↓b_pAI, ↓b_pAL, bad_of, bad_l, Bool.false_eq_true, ↓reduceIte, Int32.reduceLT, Int32.reduceLE, Int32.reduceToNatClampNeg, Int32.reduceOfNat, Int32.reduceAdd, Int32.reduceSub, Int32.reduceMul, Nat.reduceAdd, Nat.reduceMul, Nat.reduceEqDiff]
            rw [mX11_known_b55]
            simp (maxSteps := 3000000) (disch := omega) only [mX0_know, lK0 L, e_Iself, e_K_sI, e_R_sI, lR0_8 L, lK194 L, ya, h6, ↓o_bind, o_map, ↓b_rcv, ↓b_gI, ↓b_gL, ↓b_gR, ↓b_gN, ↓b_pI, ↓b_pL, ↓b_pR, ↓b_gAI, ↓b_gAL, ↓b_gAR, ↓b_pAI, ↓b_pAL, bad_of, bad_l, Bool.false_eq_true, ↓reduceIte, Int32.reduceLT, Int32.reduceLE, Int32.reduceToNatClampNeg, Int32.reduceOfNat, Int32.reduceAdd, Int32.reduceSub, Int32.reduceMul, Nat.reduceAdd, Nat.reduceMul, Nat.reduceEqDiff]
            rw [mX0_know_b16]
            simp (maxSteps := 3000000) (disch := omega) only [e_K_sI, lK194 L, k1, e_R_sI, lR194_4 L, lK195 L, e_N_sI, lN195 L, k2, cl_of, e_AI_sI, ↓o_bind, o_map, ↓b_rcv, ↓b_gI, ↓b_gL, ↓b_gR, ↓b_gN, ↓b_pI, ↓b_pL, ↓b_pR, ↓b_gAI, ↓b_gAL, ↓b_gAR, ↓b_pAI, ↓b_pAL, bad_of, bad_l, Bool.false_eq_true, ↓reduceIte, Int32.reduceLT, Int32.reduceLE, Int32.reduceToNatClampNeg, Int32.reduceOfNat, Int32.reduceAdd, Int32.reduceSub, Int32.reduceMul, Nat.reduceAdd, Nat.reduceMul, Nat.reduceEqDiff]
          · have h6 : ¬ Int32.ofNat q = aS A 5 := fun e => h5 e.symm
            have e8 := j_fill (h := sI h c 15 0) (a := c + 195) (v := 0) (lK195 L) (lN195 L) (by omega)
            refine ⟨fun j => if j < 3 then 0 else hAI h (c + 195) j, hz _ (fun j hj => if_pos hj) h5, ?_⟩
            simp (maxSteps := 3000000) (disch := omega) only [mX11_known, lK0 L, lR0_2 L, lK56 L, g1, i1, e1, n10, p_within, hg, and_self, e2, ht2, ↓o_bind, o_map, ↓b_rcv, ↓b_gI, ↓b_gL, ↓b_gR, ↓b_gN, ↓b_pI, ↓b_pL, ↓b_pR, ↓b_gAI, ↓b_gAL, ↓b_gAR, ↓b_pAI, ↓b_pAL, bad_of, bad_l, Bool.false_eq_true, ↓reduceIte, Int32.reduceLT, Int32.reduceLE, Int32.reduceToNatClampNeg, Int32.reduceOfNat, Int32.reduceAdd, Int32.reduceSub, Int32.reduceMul, Nat.reduceAdd, Nat.reduceMul, Nat.reduceEqDiff]
            rw [mX11_known_b55]
            simp (maxSteps := 3000000) (disch := omega) only [mX0_know, lK0 L, e_Iself, e_K_sI, e_R_sI, lR0_8 L, lK194 L, ya, h6, lR194_4 L, e8, ↓o_bind, o_map, ↓b_rcv, ↓b_gI, ↓b_gL, ↓b_gR, ↓b_gN, ↓b_pI, ↓b_pL, ↓b_pR, ↓b_gAI, ↓b_gAL, ↓b_gAR, ↓b_pAI, ↓b_pAL, bad_of, bad_l, Bool.false_eq_true, ↓reduceIte, Int32.reduceLT, Int32.reduceLE, Int32.reduceToNatClampNeg, Int32.reduceOfNat, Int32.reduceAdd, Int32.reduceSub, Int32.reduceMul, Nat.reduceAdd, Nat.reduceMul, Nat.reduceEqDiff]
            rw [mX0_know_b16]
            simp (maxSteps := 3000000) (disch := omega) only [e_K_sI, e_K_sAI, lK194 L, k1, e_R_sI, e_R_sAI, lR194_4 L, lK195 L, e_N_sI, e_N_sAI, lN195 L, k2, cl_of, e_AI_sI, e_sAI, ↓o_bind, o_map, ↓b_rcv, ↓b_gI, ↓b_gL, ↓b_gR, ↓b_gN, ↓b_pI, ↓b_pL, ↓b_pR, ↓b_gAI, ↓b_gAL, ↓b_gAR, ↓b_pAI, ↓b_pAL, bad_of, bad_l, Bool.false_eq_true, ↓reduceIte, Int32.reduceLT, Int32.reduceLE, Int32.reduceToNatClampNeg, Int32.reduceOfNat, Int32.reduceAdd, Int32.reduceSub, Int32.reduceMul, Nat.reduceAdd, Nat.reduceMul, Nat.reduceEqDiff]
            have e3 : ∀ v : Nat → Int32, sI (sAI (sI h c 15 0) (c + 195) v) (c + 194) 1 (Int32.ofNat q) = sAI (sI (sI h c 15 0) (c + 194) 1 (Int32.ofNat q)) (c + 195) v := fun v => (rfl)
            rw [e3, e_AI2]
        obtain ⟨g0, hg0, hcl⟩ := hcls
        refine ⟨1, knA (tb A 0) q u g, (W.tb (t := 0)).kn hq ht hg, ⟨_, hcl, CR.kn (W.tb (t := 0)) (C.tb (by decide)) q u g g0 hg0, ((Oc.I0 15 0).tr (Oc.I 194 1 _ (by omega))).tr (Oc.AI 195 _ (by omega))⟩, fun h1 R => ?_⟩
        have R2 := R.th 0
        have M := R2.1.1
        have f1 := q_isField1 R2 W hq
        obtain ⟨b', Q⟩ := R2.rq W (by omega)
        have b1 := Q.2.1
        have t1 := q_top Q hq
        obtain ⟨⟨k1, k2, k3, k4, k5, k6, k7, k8, k9, k10, k11, k12, k13⟩, -⟩ := Q.2.2.1
        have e3 := in_v (h := sI h1 m 0 0) (show bT (aB A) q ≤ 100 by omega) hu
        have e4 : mX16_in (sI h1 m 0 0) g 0 1000000 = some 1 := by rw [q_in, if_pos hg]
        have s10 := R2.2.1.2.2.2.2.2.2.2.2.2.1
        by_cases h5 : aS A 5 = Int32.ofNat q
        · have e6 := r_known (q := q) (u := u) (s := g) M (by omega)
          refine ⟨_, ?_, (R2.kn q u g (hAI (sI h1 m 0 0) (m + 17)) (hy _ (R2.2.2.2.1 (nz5 h5)) h5)).tb (t := 0) (by decide), (((Om.th 0).tr (Om.I 34 _)).tr (Om.AI _ _ (by omega))).tr Om.tb⟩
          simp (maxSteps := 3000000) (disch := omega) only [mX16_known, qK0 R.1.1, qK0 M, f1, n10, b1, k1, k3, k7, k11, cl_of, t1, e3, e4, ht2, s10, h5, e6, ↓o_bind, o_map, ↓b_rcv, ↓b_gI, ↓b_gL, ↓b_gR, ↓b_gN, ↓b_pI, ↓b_pL, ↓b_pR, ↓b_gAI, ↓b_gAL, ↓b_gAR, ↓b_pAI, ↓b_pAL, bad_of, bad_l, Bool.false_eq_true, ↓reduceIte, Int32.reduceLT, Int32.reduceLE, Int32.reduceToNatClampNeg, Int32.reduceOfNat, Int32.reduceAdd, Int32.reduceSub, Int32.reduceMul, Nat.reduceAdd, Nat.reduceMul, Nat.reduceEqDiff]
        · have e6 := r_known_l (q := q) (u := u) (s := g) M (show u < 10 by omega) 10 FUEL 0 (hAI (sI h1 m 0 0) (m + 17)) (by omega) (by unfold FUEL; omega)
          rw [e_AIself] at e6
          have e7 : mX16_known_l83 FUEL (sI h1 m 0 0) m (Int32.ofNat q) (Int32.ofNat u) g 0 = _ := e6
          refine ⟨_, ?_, (R2.kn q u g (fun j => if 0 ≤ j ∧ j < 10 then 0 else hAI (sI h1 m 0 0) (m + 17) j) (hz _ (fun j hj => if_pos (by omega)) h5)).tb (t := 0) (by decide), (((Om.th 0).tr (Om.I 34 _)).tr (Om.AI _ _ (by omega))).tr Om.tb⟩
          simp (maxSteps := 3000000) (disch := omega) only [mX16_known, qK0 R.1.1, qK0 M, f1, n10, b1, k1, k3, k7, k11, cl_of, t1, e3, e4, ht2, s10, h5, e7, ↓o_bind, o_map, ↓b_rcv, ↓b_gI, ↓b_gL, ↓b_gR, ↓b_gN, ↓b_pI, ↓b_pL, ↓b_pR, ↓b_gAI, ↓b_gAL, ↓b_gAR, ↓b_pAI, ↓b_pAL, bad_of, bad_l, Bool.false_eq_true, ↓reduceIte, Int32.reduceLT, Int32.reduceLE, Int32.reduceToNatClampNeg, Int32.reduceOfNat, Int32.reduceAdd, Int32.reduceSub, Int32.reduceMul, Nat.reduceAdd, Nat.reduceMul, Nat.reduceEqDiff]
      · have ht2 : ¬ Int32.ofNat (bT (aB A) q) ≤ 2 := by rw [show (2 : Int32) = Int32.ofNat 2 from rfl, le_of (by omega) (by omega)]; omega
        refine ref 5 (by decide) (fun h1 R => ?_) ?_
        · have R2 := R.th 0
          have M := R2.1.1
          have f1 := q_isField1 R2 W hq
          obtain ⟨b', Q⟩ := R2.rq W (by omega)
          have b1 := Q.2.1
          have t1 := q_top Q hq
          obtain ⟨⟨k1, k2, k3, k4, k5, k6, k7, k8, k9, k10, k11, k12, k13⟩, -⟩ := Q.2.2.1
          have e3 := in_v (h := sI h1 m 0 0) (show bT (aB A) q ≤ 100 by omega) hu
          have e4 : mX16_in (sI h1 m 0 0) g 0 1000000 = some 1 := by rw [q_in, if_pos hg]
          have e5 := q_denied M 5
          simp (maxSteps := 3000000) (disch := omega) only [mX16_known, qK0 R.1.1, qK0 M, f1, n10, b1, k1, k3, k7, k11, cl_of, t1, e3, e4, ht2, e5, rB0, ↓o_bind, o_map, ↓b_rcv, ↓b_gI, ↓b_gL, ↓b_gR, ↓b_gN, ↓b_pI, ↓b_pL, ↓b_pR, ↓b_gAI, ↓b_gAL, ↓b_gAR, ↓b_pAI, ↓b_pAL, bad_of, bad_l, Bool.false_eq_true, ↓reduceIte, Int32.reduceLT, Int32.reduceLE, Int32.reduceToNatClampNeg, Int32.reduceOfNat, Int32.reduceAdd, Int32.reduceSub, Int32.reduceMul, Nat.reduceAdd, Nat.reduceMul, Nat.reduceEqDiff]
        · have e9 := knw_b L (Int32.ofNat q) (Int32.ofNat u) g 5 n50
          simp (maxSteps := 3000000) (disch := omega) only [mX11_known, lK0 L, lR0_2 L, lK56 L, g1, i1, e1, n10, p_within, hg, and_self, e2, ht2, e9, ↓o_bind, o_map, ↓b_rcv, ↓b_gI, ↓b_gL, ↓b_gR, ↓b_gN, ↓b_pI, ↓b_pL, ↓b_pR, ↓b_gAI, ↓b_gAL, ↓b_gAR, ↓b_pAI, ↓b_pAL, bad_of, bad_l, Bool.false_eq_true, ↓reduceIte, Int32.reduceLT, Int32.reduceLE, Int32.reduceToNatClampNeg, Int32.reduceOfNat, Int32.reduceAdd, Int32.reduceSub, Int32.reduceMul, Nat.reduceAdd, Nat.reduceMul, Nat.reduceEqDiff]
    · refine ref 2 (by decide) (fun h1 R => ?_) ?_
      · have R2 := R.th 0
        have M := R2.1.1
        have f1 := q_isField1 R2 W hq
        obtain ⟨b', Q⟩ := R2.rq W (by omega)
        have b1 := Q.2.1
        have t1 := q_top Q hq
        obtain ⟨⟨k1, k2, k3, k4, k5, k6, k7, k8, k9, k10, k11, k12, k13⟩, -⟩ := Q.2.2.1
        have e3 := in_v (h := sI h1 m 0 0) (show bT (aB A) q ≤ 100 by omega) hu
        have e4 : mX16_in (sI h1 m 0 0) g 0 1000000 = some 0 := by rw [q_in, if_neg hg]
        have e5 := q_denied M 2
        simp (maxSteps := 3000000) (disch := omega) only [mX16_known, qK0 R.1.1, qK0 M, f1, n10, b1, k1, k3, k7, k11, cl_of, t1, e3, e4, e5, rB0, ↓o_bind, o_map, ↓b_rcv, ↓b_gI, ↓b_gL, ↓b_gR, ↓b_gN, ↓b_pI, ↓b_pL, ↓b_pR, ↓b_gAI, ↓b_gAL, ↓b_gAR, ↓b_pAI, ↓b_pAL, bad_of, bad_l, Bool.false_eq_true, ↓reduceIte, Int32.reduceLT, Int32.reduceLE, Int32.reduceToNatClampNeg, Int32.reduceOfNat, Int32.reduceAdd, Int32.reduceSub, Int32.reduceMul, Nat.reduceAdd, Nat.reduceMul, Nat.reduceEqDiff]
      · have e9 := knw_b L (Int32.ofNat q) (Int32.ofNat u) g 2 n20
        simp (maxSteps := 3000000) (disch := omega) only [mX11_known, lK0 L, lR0_2 L, lK56 L, g1, i1, e1, n10, p_within, hg, e9, ↓o_bind, o_map, ↓b_rcv, ↓b_gI, ↓b_gL, ↓b_gR, ↓b_gN, ↓b_pI, ↓b_pL, ↓b_pR, ↓b_gAI, ↓b_gAL, ↓b_gAR, ↓b_pAI, ↓b_pAL, bad_of, bad_l, Bool.false_eq_true, ↓reduceIte, Int32.reduceLT, Int32.reduceLE, Int32.reduceToNatClampNeg, Int32.reduceOfNat, Int32.reduceAdd, Int32.reduceSub, Int32.reduceMul, Nat.reduceAdd, Nat.reduceMul, Nat.reduceEqDiff]
  · have e1 := p_hasValue0 G hv
    refine XS.no (v := 0) 1 (by decide) C W (fun _ _ => Or.inr trivial) ?_ (fun h1 R => ⟨sI h1 m 0 0, Rs.I 0 0 (by decide), ?_⟩)
    · rw [mX11_known, b_gR, if_pos (lK0 L), lR0_2 L, b_gR, if_pos (lK56 L), g1, b_rcv, if_pos i1, e1, o_bind, if_pos rfl, knw_b L _ _ _ 1 n10]
    · have R2 := R.th 0
      have M := R2.1.1
      have e5 := q_denied M 1
      rcases rng f (bF (aB A)) with ⟨q, hq, rfl⟩ | hno
      · have f1 := q_isField1 R2 W hq
        obtain ⟨b', Q⟩ := R2.rq W (by omega)
        have b1 := Q.2.1
        have t1 := q_top Q hq
        have w6 := W.1.1
        have wt := W.1.2.2.1 q hq
        obtain ⟨⟨k1, k2, k3, k4, k5, k6, k7, k8, k9, k10, k11, k12, k13⟩, -⟩ := Q.2.2.1
        have e3 := in_vn (h := sI h1 m 0 0) (v := v) (show bT (aB A) q ≤ 100 by omega) (fun u hu e => hv ⟨q, u, hq, hu, rfl, e⟩)
        simp (maxSteps := 3000000) (disch := omega) only [mX16_known, mX16_known_b30, qK0 R.1.1, qK0 M, f1, n10, b1, k1, k3, k7, k11, cl_of, t1, e3, e5, rB0, ↓o_bind, o_map, ↓b_rcv, ↓b_gI, ↓b_gL, ↓b_gR, ↓b_gN, ↓b_pI, ↓b_pL, ↓b_pR, ↓b_gAI, ↓b_gAL, ↓b_gAR, ↓b_pAI, ↓b_pAL, bad_of, bad_l, Bool.false_eq_true, ↓reduceIte, Int32.reduceLT, Int32.reduceLE, Int32.reduceToNatClampNeg, Int32.reduceOfNat, Int32.reduceAdd, Int32.reduceSub, Int32.reduceMul, Nat.reduceAdd, Nat.reduceMul, Nat.reduceEqDiff]
      · have f1 := q_isField0 R2 W hno
        simp (maxSteps := 3000000) (disch := omega) only [mX16_known, mX16_known_b30, qK0 R.1.1, qK0 M, f1, e5, rB0, ↓o_bind, o_map, ↓b_rcv, ↓b_gI, ↓b_gL, ↓b_gR, ↓b_gN, ↓b_pI, ↓b_pL, ↓b_pR, ↓b_gAI, ↓b_gAL, ↓b_gAR, ↓b_pAI, ↓b_pAL, bad_of, bad_l, Bool.false_eq_true, ↓reduceIte, Int32.reduceLT, Int32.reduceLE, Int32.reduceToNatClampNeg, Int32.reduceOfNat, Int32.reduceAdd, Int32.reduceSub, Int32.reduceMul, Nat.reduceAdd, Nat.reduceMul, Nat.reduceEqDiff]

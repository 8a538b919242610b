theorem row_b {c : Nat} {h : MHp} (L : CL c h) (v : Int32) (hv : ¬ v = 0) : mX11_row_b93 h c (some c) v = some (-1, sI h c 15 v) := by
  have K : hK (sI h c 15 v) c = 12 := lK0 L
  rw [mX11_row_b93, b_pI, if_pos (lK0 L), b_gI, if_pos K, e_Iself, if_neg hv]
theorem va_cpy_congr {f f' g : Nat → Int32} {d : Nat} (h : ∀ j : Nat, j < 6 → f j = f' j) : va_cpy f g 0 d 6 = va_cpy f' g 0 d 6 := by
  funext k
  unfold va_cpy
  by_cases q : d ≤ k ∧ k < d + 6
  · rw [if_pos q, if_pos q, h _ (by omega)]
  · rw [if_neg q, if_neg q]
theorem p_keep {h : MHp} {a b d : Nat} (ka : hK h a = 20) (na : hN h a = 6) (kb : hK h b = 20) {nb : Nat} (hnb : hN h b = nb) (hd : d + 6 ≤ nb) (hnb2 : nb ≤ 2000) : mX9_keep h (some a) (some b) (Int32.ofNat d) = some (sAI h b (va_cpy (hAI h a) (hAI h b) 0 d 6)) := by
  have c1 : ¬ Int32.ofNat d < 0 := by rw [nn_of (by omega)]; exact not_false
  have e6 : Int32.ofNat d + 6 = Int32.ofNat (d + 6) := by rw [Int32.ofNat_add]; rfl
  have c2 : ¬ Int32.ofNat nb < Int32.ofNat (d + 6) := by rw [lt_of (by omega) (by omega)]; omega
  have c3 : ¬ (Int32.ofNat 6 < (6 : Int32)) := by decide
  have c4 : ¬ ((0 : Int32) < 0 ∨ Int32.ofNat d < 0 ∨ (6 : Int32) < 0 ∨ 6 < (0 : Int32).toNatClampNeg + (6 : Int32).toNatClampNeg ∨ nb < (Int32.ofNat d).toNatClampNeg + (6 : Int32).toNatClampNeg) := by
    rw [cl_of (by omega)]
    rintro (h | h | h | h | h)
    · exact absurd h (by decide)
    · exact c1 h
    · exact absurd h (by decide)
    · exact absurd h (by decide)
    · have : (6 : Int32).toNatClampNeg = 6 := rfl
      rw [this] at h
      omega
  rw [mX9_keep, if_neg c1, b_gN, if_pos kb, hnb, e6, if_neg c2, b_gN, if_pos ka, na, if_neg c3]
  unfold cpI
  rw [b_bind, b_rcv, if_pos ka, b_bind, b_rcv, if_pos kb, na, hnb, if_neg c4, o_bind, cl_of (by omega)]
  rfl
theorem p_add {c n k : Nat} {h : MHp} {d : Int32} (L : CL c h) (e6 : hI h (c + 56) 6 = Int32.ofNat n) (e7 : hI h (c + 56) 7 = d) (hn : n < 60) (hk : k = 183) : mX9_add h (c + 56) (some (c + k)) = some (Int32.ofNat n, sI (sAI (sAI (sAI (sAI (sAI (sAI h (c + 110) (va_up (hAI h (c + 110)) n d)) (c + 111) (va_up (hAI h (c + 111)) n (-2))) (c + 112) (va_up (hAI h (c + 112)) n (-2))) (c + 113) (va_up (hAI h (c + 113)) n (-2))) (c + 114) (va_up (hAI h (c + 114)) n 1)) (c + 115) (va_cpy (hAI h (c + k)) (hAI h (c + 115)) 0 (n * 6) 6)) (c + 56) 6 (Int32.ofNat (n + 1))) := by
  subst hk
  have c1 : ¬ Int32.ofNat n < 0 := by rw [nn_of (by omega)]; exact not_false
  have c2 : Int32.ofNat n < 60 := by rw [show (60 : Int32) = Int32.ofNat 60 from rfl, lt_of (by omega) (by omega)]; exact hn
  have bd := bad_of (k := n) (n := 60) hn (by omega)
  have e10 : Int32.ofNat n * 6 = Int32.ofNat (n * 6) := by simp
  have sub1 : Int32.ofNat (n + 1) - 1 = Int32.ofNat n := sub1_of rfl
  obtain ⟨X, hX⟩ : ∃ X : MHp, X = sAI (sAI (sAI (sAI (sAI h (c + 110) (va_up (hAI h (c + 110)) n d)) (c + 111) (va_up (hAI h (c + 111)) n (-2))) (c + 112) (va_up (hAI h (c + 112)) n (-2))) (c + 113) (va_up (hAI h (c + 113)) n (-2))) (c + 114) (va_up (hAI h (c + 114)) n 1) := ⟨_, rfl⟩
  have LX : CL c X := by rw [hX]; exact L
  have x6 : hI X (c + 56) 6 = Int32.ofNat n := by rw [hX]; exact e6
  have x183 : hAI X (c + 183) = hAI h (c + 183) := by
    rw [hX, e_sAI, if_neg (by omega), e_sAI, if_neg (by omega), e_sAI, if_neg (by omega), e_sAI, if_neg (by omega), e_sAI, if_neg (by omega)]
  have x115 : hAI X (c + 115) = hAI h (c + 115) := by
    rw [hX, e_sAI, if_neg (by omega), e_sAI, if_neg (by omega), e_sAI, if_neg (by omega), e_sAI, if_neg (by omega), e_sAI, if_neg (by omega)]
  have kp := p_keep (h := X) (a := c + 183) (b := c + 115) (d := n * 6) (lK183 LX) (lN183 LX) (lK115 LX) (lN115 LX) (by omega) (by omega)
  rw [x183, x115] at kp
  have n1 : c + 111 ≠ c + 110 := by omega
  have n2 : c + 112 ≠ c + 110 := by omega
  have n3 : c + 112 ≠ c + 111 := by omega
  have n4 : c + 113 ≠ c + 110 := by omega
  have n5 : c + 113 ≠ c + 111 := by omega
  have n6 : c + 113 ≠ c + 112 := by omega
  have n7 : c + 114 ≠ c + 110 := by omega
  have n8 : c + 114 ≠ c + 111 := by omega
  have n9 : c + 114 ≠ c + 112 := by omega
  have n10 : c + 114 ≠ c + 113 := by omega
  rw [mX9_add, b_gI, if_pos (lK56 L), e6, if_neg c1, b_gI, if_pos (lK56 L), e6, if_pos c2]
  simp (maxSteps := 3000000) (disch := omega) only [lK56 L, lR56_0 L, lR56_1 L, lR56_2 L, lR56_3 L, lR56_4 L, e6, e7, lK110 L, lN110 L, lK111 L, lN111 L, lK112 L, lN112 L, lK113 L, lN113 L, lK114 L, lN114 L, bd, cl_of, e_K_sAI, e_N_sAI, e_R_sAI, e_I_sAI, e_sAI, n1, n2, n3, n4, n5, n6, n7, n8, n9, n10, ← hX, lK56 LX, lR56_8 LX, x6, e10, kp, s1_of, e_K_sI, e_Iself, sub1, ↓o_bind, o_map, ↓b_rcv, ↓b_gI, ↓b_gL, ↓b_gR, ↓b_gN, ↓b_pI, ↓b_pL, ↓b_pR, ↓b_gAI, ↓b_gAL, ↓b_gAR, ↓b_pAI, ↓b_pAL, bad_of, bad_l, Bool.false_eq_true, ↓reduceIte, Int32.reduceLT, Int32.reduceLE, Int32.reduceToNatClampNeg, Int32.reduceOfNat, Int32.reduceAdd, Int32.reduceSub, Int32.reduceMul, Nat.reduceAdd, Nat.reduceMul, Nat.reduceEqDiff]
theorem okall {A : AS} {x : Nat → Int32} (W : WA A) : allF (okV (aB A) x) (bF (aB A)) 0 = true ↔ ∀ f : Nat, f < bF (aB A) → (-1) ≤ x f ∧ x f ≤ Int32.ofNat (bT (aB A) f) := by
  rw [allF_iff]
  constructor
  · intro h f hf
    have := h f (by omega) (by omega)
    rw [okV_iff (by have := W.1.2.2.1 f hf; omega), decide_eq_true_eq] at this
    exact this
  · intro h f _ hf
    rw [okV_iff (by have := W.1.2.2.1 f (by omega); omega), decide_eq_true_eq]
    exact h f (by omega)
theorem w4_of {β : Type} {m k : Nat} {X : MHp} {g : Nat → Int32} {v : Int32} {f : MHp → Option β} (M : QL m X) (hk : k < 360) : ((gR 17 20 (sAI X (m + 4) g) (some m)).bind fun x => (pAI 20 (sAI X (m + 4) g) x (Int32.ofNat k) v).bind f) = f (sAI X (m + 4) (va_up g k v)) := by
  have bd := bad_n (k := k) (n := 360) hk (by omega)
  rw [b_gR, if_pos (show hK (sAI X (m + 4) g) m = 17 from qK0 M), show hR (sAI X (m + 4) g) m 20 = some (m + 4) from qR20 M, b_pAI, if_pos (show hK (sAI X (m + 4) g) (m + 4) = 20 from qK4 M), show hN (sAI X (m + 4) g) (m + 4) = 360 from qN4 M, if_neg bd, cl_of (by omega), e_sAI, if_pos rfl, e_AI2]
theorem wg_of {β : Type} {m a k sl : Nat} {h : MHp} {v : Int32} {f : MHp → Option β} (K : hK h m = 17) (r : hR h m sl = some a) (ka : hK h a = 20) (na : hN h a = 60) (hi : hI h m 18 = Int32.ofNat k) (hk : k < 60) : ((gR 17 sl h (some m)).bind fun x => (gI 17 18 h (some m)).bind fun y => (pAI 20 h x y v).bind f) = f (sAI h a (va_up (hAI h a) k v)) := by
  have bd := bad_n (k := k) (n := 60) hk (by omega)
  rw [b_gR, if_pos K, r, b_gI, if_pos K, hi, b_pAI, if_pos ka, na, if_neg bd, cl_of (by omega)]
theorem r_row {m : Nat} {h1 : MHp} {A : AS} {a b d e f g : Int32} (W : WA A) (R : RR m h1 A) (hn : aN A 2 < 60) (ref : mX16_row h1 m a b d e f g = (gI 17 18 (sI h1 m 0 0) (some m)).bind fun x17 => (if x17 = 60 then (rcv 17 (sI h1 m 0 0) (some m)).bind fun b56 => (mX16_refused (sI h1 m 0 0) b56 3).bind fun r55 => some (r55.1, r55.2) else (gI 17 18 (sI h1 m 0 0) (some m)).bind fun x18 => (gR 17 20 (sI h1 m 0 0) (some m)).bind fun x19 => (pAI 20 (sI h1 m 0 0) x19 (6 * x18) a).bind fun h20 => (gR 17 20 h20 (some m)).bind fun x21 => (pAI 20 h20 x21 ((6 * x18) + 1) b).bind fun h22 => (gR 17 20 h22 (some m)).bind fun x23 => (pAI 20 h22 x23 ((6 * x18) + 2) d).bind fun h24 => (gR 17 20 h24 (some m)).bind fun x25 => (pAI 20 h24 x25 ((6 * x18) + 3) e).bind fun h26 => (gR 17 20 h26 (some m)).bind fun x27 => (pAI 20 h26 x27 ((6 * x18) + 4) f).bind fun h28 => (gR 17 20 h28 (some m)).bind fun x29 => (pAI 20 h28 x29 ((6 * x18) + 5) g).bind fun h30 => (gR 17 23 h30 (some m)).bind fun x31 => (gI 17 18 h30 (some m)).bind fun x32 => (gI 17 19 h30 (some m)).bind fun x33 => (pAI 20 h30 x31 x32 x33).bind fun h34 => (gR 17 24 h34 (some m)).bind fun x35 => (gI 17 18 h34 (some m)).bind fun x36 => (pAI 20 h34 x35 x36 (-1)).bind fun h37 => (gR 17 25 h37 (some m)).bind fun x38 => (gI 17 18 h37 (some m)).bind fun x39 => (pAI 20 h37 x38 x39 (-1)).bind fun h40 => (gR 17 26 h40 (some m)).bind fun x41 => (gI 17 18 h40 (some m)).bind fun x42 => (pAI 20 h40 x41 x42 0).bind fun h43 => (gR 17 27 h43 (some m)).bind fun x44 => (gI 17 18 h43 (some m)).bind fun x45 => (pAI 20 h43 x44 x45 (-1)).bind fun h46 => (gR 17 28 h46 (some m)).bind fun x47 => (gI 17 18 h46 (some m)).bind fun x48 => (pAI 20 h46 x47 x48 1).bind fun h49 => (gI 17 18 h49 (some m)).bind fun x50 => (pI 17 18 h49 (some m) (x50 + 1)).bind fun h51 => (gI 17 18 h51 (some m)).bind fun x52 => (rcv 17 h51 (some m)).bind fun b54 => (mX16_done h51 b54 (x52 - 1)).bind fun r53 => some (r53.1, r53.2))) : RS m h1 (mX16_row h1 m a b d e f g) (Int32.ofNat (aN A 2)) (rwA (tb A 0) (gv a b d e f g)) := by
  have R2 := R.th 0
  have M := R2.1.1
  have K : hK (sI h1 m 0 0) m = 17 := qK0 M
  have s18 := R2.2.1.2.2.1
  have s19 := R2.2.1.2.2.2.2.2.2.2.1
  have h3 := (R2.rw (gv a b d e f g)).tb (t := 0) (by decide)
  have eA : tb (rwA A (gv a b d e f g)) 0 = rwA (tb A 0) (gv a b d e f g) := rfl
  rw [eA] at h3
  have c60 : ¬ Int32.ofNat (aN A 2) = 60 := by rw [show (60 : Int32) = Int32.ofNat 60 from rfl, eq_of (by omega) (by omega)]; omega
  have e10 : 6 * Int32.ofNat (aN A 2) = Int32.ofNat (aN A 2 * 6) := by simp; rw [Int32.mul_comm]
  have p2 : Int32.ofNat (aN A 2 * 6) + 2 = Int32.ofNat (aN A 2 * 6 + 2) := by rw [Int32.ofNat_add]; rfl
  have p3 : Int32.ofNat (aN A 2 * 6) + 3 = Int32.ofNat (aN A 2 * 6 + 3) := by rw [Int32.ofNat_add]; rfl
  have p4 : Int32.ofNat (aN A 2 * 6) + 4 = Int32.ofNat (aN A 2 * 6 + 4) := by rw [Int32.ofNat_add]; rfl
  have p5 : Int32.ofNat (aN A 2 * 6) + 5 = Int32.ofNat (aN A 2 * 6 + 5) := by rw [Int32.ofNat_add]; rfl
  have sub1 : Int32.ofNat (aN A 2 + 1) - 1 = Int32.ofNat (aN A 2) := sub1_of rfl
  obtain ⟨X, hX⟩ : ∃ X : MHp, X = sI h1 m 0 0 := ⟨_, rfl⟩
  rw [← hX] at ref R2 M K s18 s19 h3
  rw [b_gI, if_pos K, s18, if_neg c60, b_gI, if_pos K, s18, e10, s1_of, p2, p3, p4, p5] at ref
  have slf : sAI X (m + 4) (hAI X (m + 4)) = X := e_AIself _ _
  obtain ⟨Y, hY⟩ : ∃ Y : MHp, Y = sAI X (m + 4) (va_cpy (gv a b d e f g) (hAI X (m + 4)) 0 (aN A 2 * 6) 6) := ⟨_, rfl⟩
  have six : ∀ {β : Type} (F : MHp → Option β), ((gR 17 20 X (some m)).bind fun x19 => (pAI 20 X x19 (Int32.ofNat (aN A 2 * 6)) a).bind fun h20 => (gR 17 20 h20 (some m)).bind fun x21 => (pAI 20 h20 x21 (Int32.ofNat (aN A 2 * 6 + 1)) b).bind fun h22 => (gR 17 20 h22 (some m)).bind fun x23 => (pAI 20 h22 x23 (Int32.ofNat (aN A 2 * 6 + 2)) d).bind fun h24 => (gR 17 20 h24 (some m)).bind fun x25 => (pAI 20 h24 x25 (Int32.ofNat (aN A 2 * 6 + 3)) e).bind fun h26 => (gR 17 20 h26 (some m)).bind fun x27 => (pAI 20 h26 x27 (Int32.ofNat (aN A 2 * 6 + 4)) f).bind fun h28 => (gR 17 20 h28 (some m)).bind fun x29 => (pAI 20 h28 x29 (Int32.ofNat (aN A 2 * 6 + 5)) g).bind F) = F Y := by
    intro β F
    have st := w4_of (β := β) (k := aN A 2 * 6) (g := hAI X (m + 4)) (v := a) (f := fun h20 => (gR 17 20 h20 (some m)).bind fun x21 => (pAI 20 h20 x21 (Int32.ofNat (aN A 2 * 6 + 1)) b).bind fun h22 => (gR 17 20 h22 (some m)).bind fun x23 => (pAI 20 h22 x23 (Int32.ofNat (aN A 2 * 6 + 2)) d).bind fun h24 => (gR 17 20 h24 (some m)).bind fun x25 => (pAI 20 h24 x25 (Int32.ofNat (aN A 2 * 6 + 3)) e).bind fun h26 => (gR 17 20 h26 (some m)).bind fun x27 => (pAI 20 h26 x27 (Int32.ofNat (aN A 2 * 6 + 4)) f).bind fun h28 => (gR 17 20 h28 (some m)).bind fun x29 => (pAI 20 h28 x29 (Int32.ofNat (aN A 2 * 6 + 5)) g).bind F) M (by omega)
    rw [slf] at st
    rw [st, w4_of M (by omega), w4_of M (by omega), w4_of M (by omega), w4_of M (by omega), w4_of M (by omega), gv_cpy, ← hY]
  rw [six] at ref
  have MY : QL m Y := by rw [hY]; exact M
  have KY : hK Y m = 17 := qK0 MY
  have y18 : hI Y m 18 = Int32.ofNat (aN A 2) := by rw [hY]; exact s18
  have y19 : hI Y m 19 = aS A 3 := by rw [hY]; exact s19
  have eR : ∀ k : Nat, k ≠ 4 → hAI Y (m + k) = hAI X (m + k) := fun k hk => by rw [hY, e_sAI, if_neg (by omega)]
  have bd60 := bad_n (k := aN A 2) (n := 60) hn (by omega)
  rw [b_gR, if_pos KY, qR23 MY, b_gI, if_pos KY, y18, b_gI, if_pos KY, y19, b_pAI, if_pos (qK7 MY), qN7 MY, if_neg bd60, cl_of (by omega), eR 7 (by decide)] at ref
  obtain ⟨Y1, hY1⟩ : ∃ Y1 : MHp, Y1 = sAI Y (m + 7) (va_up (hAI X (m + 7)) (aN A 2) (aS A 3)) := ⟨_, rfl⟩
  have M1 : QL m Y1 := by rw [hY1]; exact MY
  have i1 : hI Y1 m 18 = Int32.ofNat (aN A 2) := by rw [hY1]; exact y18
  have a1 : hAI Y1 (m + 8) = hAI X (m + 8) := by rw [hY1, e_sAI, if_neg (by omega), eR 8 (by decide)]
  rw [← hY1, wg_of (qK0 M1) (qR24 M1) (qK8 M1) (qN8 M1) i1 hn, a1] at ref
  obtain ⟨Y2, hY2⟩ : ∃ Y2 : MHp, Y2 = sAI Y1 (m + 8) (va_up (hAI X (m + 8)) (aN A 2) (-1)) := ⟨_, rfl⟩
  have M2 : QL m Y2 := by rw [hY2]; exact M1
  have i2 : hI Y2 m 18 = Int32.ofNat (aN A 2) := by rw [hY2]; exact i1
  have a2 : hAI Y2 (m + 9) = hAI X (m + 9) := by rw [hY2, e_sAI, if_neg (by omega), hY1, e_sAI, if_neg (by omega), eR 9 (by decide)]
  rw [← hY2, wg_of (qK0 M2) (qR25 M2) (qK9 M2) (qN9 M2) i2 hn, a2] at ref
  obtain ⟨Y3, hY3⟩ : ∃ Y3 : MHp, Y3 = sAI Y2 (m + 9) (va_up (hAI X (m + 9)) (aN A 2) (-1)) := ⟨_, rfl⟩
  have M3 : QL m Y3 := by rw [hY3]; exact M2
  have i3 : hI Y3 m 18 = Int32.ofNat (aN A 2) := by rw [hY3]; exact i2
  have a3 : hAI Y3 (m + 10) = hAI X (m + 10) := by rw [hY3, e_sAI, if_neg (by omega), hY2, e_sAI, if_neg (by omega), hY1, e_sAI, if_neg (by omega), eR 10 (by decide)]
  rw [← hY3, wg_of (qK0 M3) (qR26 M3) (qK10 M3) (qN10 M3) i3 hn, a3] at ref
  obtain ⟨Y4, hY4⟩ : ∃ Y4 : MHp, Y4 = sAI Y3 (m + 10) (va_up (hAI X (m + 10)) (aN A 2) 0) := ⟨_, rfl⟩
  have M4 : QL m Y4 := by rw [hY4]; exact M3
  have i4 : hI Y4 m 18 = Int32.ofNat (aN A 2) := by rw [hY4]; exact i3
  have a4 : hAI Y4 (m + 11) = hAI X (m + 11) := by rw [hY4, e_sAI, if_neg (by omega), hY3, e_sAI, if_neg (by omega), hY2, e_sAI, if_neg (by omega), hY1, e_sAI, if_neg (by omega), eR 11 (by decide)]
  rw [← hY4, wg_of (qK0 M4) (qR27 M4) (qK11 M4) (qN11 M4) i4 hn, a4] at ref
  obtain ⟨Y5, hY5⟩ : ∃ Y5 : MHp, Y5 = sAI Y4 (m + 11) (va_up (hAI X (m + 11)) (aN A 2) (-1)) := ⟨_, rfl⟩
  have M5 : QL m Y5 := by rw [hY5]; exact M4
  have i5 : hI Y5 m 18 = Int32.ofNat (aN A 2) := by rw [hY5]; exact i4
  have a5 : hAI Y5 (m + 12) = hAI X (m + 12) := by rw [hY5, e_sAI, if_neg (by omega), hY4, e_sAI, if_neg (by omega), hY3, e_sAI, if_neg (by omega), hY2, e_sAI, if_neg (by omega), hY1, e_sAI, if_neg (by omega), eR 12 (by decide)]
  rw [← hY5, wg_of (qK0 M5) (qR28 M5) (qK12 M5) (qN12 M5) i5 hn, a5] at ref
  obtain ⟨Y6, hY6⟩ : ∃ Y6 : MHp, Y6 = sAI Y5 (m + 12) (va_up (hAI X (m + 12)) (aN A 2) 1) := ⟨_, rfl⟩
  have M6 : QL m Y6 := by rw [hY6]; exact M5
  have i6 : hI Y6 m 18 = Int32.ofNat (aN A 2) := by rw [hY6]; exact i5
  rw [← hY6, b_gI, if_pos (qK0 M6), i6, b_pI, if_pos (qK0 M6), s1_of] at ref
  have M7 : QL m (sI Y6 m 18 (Int32.ofNat (aN A 2 + 1))) := M6
  rw [b_gI, if_pos (qK0 M7), e_Iself, b_rcv, if_pos (qK0 M7), sub1, q_done M7, o_bind] at ref
  refine ⟨rtb m (sI Y6 m 18 (Int32.ofNat (aN A 2 + 1))) 0, ref, by rw [hY6, hY5, hY4, hY3, hY2, hY1, hY]; exact h3, ?_⟩
  have O : Om m h1 X := by rw [hX]; exact Om.th 0
  have O0 : Om m X Y := by rw [hY]; exact Om.AI _ _ (by omega)
  have O1 : Om m Y Y1 := by rw [hY1]; exact Om.AI _ _ (by omega)
  have O2 : Om m Y1 Y2 := by rw [hY2]; exact Om.AI _ _ (by omega)
  have O3 : Om m Y2 Y3 := by rw [hY3]; exact Om.AI _ _ (by omega)
  have O4 : Om m Y3 Y4 := by rw [hY4]; exact Om.AI _ _ (by omega)
  have O5 : Om m Y4 Y5 := by rw [hY5]; exact Om.AI _ _ (by omega)
  have O6 : Om m Y5 Y6 := by rw [hY6]; exact Om.AI _ _ (by omega)
  exact ((((((((O.tr O0).tr O1).tr O2).tr O3).tr O4).tr O5).tr O6).tr (Om.I 18 _)).tr Om.tb
theorem x_row {c m : Nat} {h : MHp} {A : AS} (C : CR c h A) (W : WA A) (a b d e f g : Int32) : XS c m h A (mX11_row h c a b d e f g) (fun h1 => mX16_row h1 m a b d e f g) := by
  have L := C.l
  have b0 : bad 0 6 = false := by decide
  have b1 : bad 1 6 = false := by decide
  have b2 : bad 2 6 = false := by decide
  have b3 : bad 3 6 = false := by decide
  have b4 : bad 4 6 = false := by decide
  have b5 : bad 5 6 = false := by decide
  have l0 : (0 : Int32).toNatClampNeg = 0 := rfl
  have l1 : (1 : Int32).toNatClampNeg = 1 := rfl
  have l2 : (2 : Int32).toNatClampNeg = 2 := rfl
  have l3 : (3 : Int32).toNatClampNeg = 3 := rfl
  have l4 : (4 : Int32).toNatClampNeg = 4 := rfl
  have l5 : (5 : Int32).toNatClampNeg = 5 := rfl
  obtain ⟨H, hH⟩ : ∃ H : MHp, H = sAI h (c + 183) (fun j => if j < 6 then gv a b d e f g j else hAI h (c + 183) j) := ⟨_, rfl⟩
  have S : Sc c h H := by rw [hH]; exact Sc.AI 183 _ (by decide)
  have CH := C.sc W S
  have LH := CH.l
  have hx : ∀ j : Nat, j < 6 → hAI H (c + 183) j = gv a b d e f g j := fun j hj => by
    rw [hH, e_sAI, if_pos rfl, if_pos hj]
  have cls : mX11_row h c a b d e f g = (mX11_hasBook H c).bind fun r20 => (if r20 = 0 then mX11_row_b93 H c (some c) 1 else (gR 12 2 H (some c)).bind fun x22 => (gR 10 5 H x22).bind fun x23 => (gR 12 4 H (some c)).bind fun x24 => (rcv 2 H x23).bind fun b26 => (mX1_allows H b26 x24).bind fun r25 => (if r25 = 0 then mX11_row_b93 H c (some c) 2 else (gR 12 2 H (some c)).bind fun x27 => (rcv 10 H x27).bind fun b29 => (mX9_isFull H b29).bind fun r28 => (if r28 = 0 then mX11_row_b93 H c (some c) 0 else mX11_row_b93 H c (some c) 3))) := by
    have hH2 := hH
    rw [← gv_up] at hH2
    rw [mX11_row]
    simp (maxSteps := 3000000) (disch := omega) only [lK0 L, lR0_4 L, lK183 L, lN183 L, b0, b1, b2, b3, b4, b5, l0, l1, l2, l3, l4, l5, e_K_sAI, e_N_sAI, e_R_sAI, e_sAI, e_AI2, ← hH2, lK0 LH, ↓o_bind, o_map, ↓b_rcv, ↓b_gI, ↓b_gL, ↓b_gR, ↓b_gN, ↓b_pI, ↓b_pL, ↓b_pR, ↓b_gAI, ↓b_gAL, ↓b_gAR, ↓b_pAI, ↓b_pAL, bad_of, bad_l, Bool.false_eq_true, ↓reduceIte, Int32.reduceLT, Int32.reduceLE, Int32.reduceToNatClampNeg, Int32.reduceOfNat, Int32.reduceAdd, Int32.reduceSub, Int32.reduceMul, Nat.reduceAdd, Nat.reduceMul, Nat.reduceEqDiff]
  have e1 := p_hasBook CH W
  by_cases hb : bF (aB A) = 0
  · rw [if_pos hb] at e1
    rw [e1, o_bind, if_pos rfl, row_b LH 1 n10] at cls
    refine ⟨-1, tb A 1, W, ⟨_, cls, CH.tb (by decide), S.oc.tr (Oc.I0 15 1)⟩, fun h1 R => ?_⟩
    have R2 := R.th 0
    have M := R2.1.1
    have f1 := R2.bkN hb
    refine ⟨rtb m (sI h1 m 0 0) 1, ?_, R2.tb (by decide), (Om.th 0).tr Om.tb⟩
    show mX16_row h1 m a b d e f g = _
    rw [mX16_row, b_pI, if_pos (qK0 R.1.1), b_gR, if_pos (qK0 M), f1, if_pos rfl, b_rcv, if_pos (qK0 M), q_refused M 1, o_bind]
  · rw [if_neg hb] at e1
    obtain ⟨b', G⟩ := CH.rg W
    have al := p_allows G (lK183 LH) (lN183 LH)
    have w6 := W.1.1
    have al2 : allF (okV (aB A) (hAI H (c + 183))) (bF (aB A)) 0 = allF (okV (aB A) (gv a b d e f g)) (bF (aB A)) 0 := allF_congr _ _ (fun j _ hj => by unfold okV; rw [hx j (by omega)])
    rw [al2] at al
    have i1 := G.ib.1
    rw [e1, o_bind, if_neg n10, b_gR, if_pos (lK0 LH), lR0_2 LH, b_gR, if_pos (lK56 LH), G.2.1, b_gR, if_pos (lK0 LH), lR0_4 LH, b_rcv, if_pos i1, al, o_bind] at cls
    have hv : ∀ h1 : MHp, RR m h1 A → ∀ j : Nat, j < 6 → ∀ v : Int32, mX16_isValue (sI h1 m 0 0) m (Int32.ofNat j) v = some (if bF (aB A) ≤ j ∨ ((-1) ≤ v ∧ v ≤ Int32.ofNat (bT (aB A) j)) then 1 else 0) := fun h1 R j hj v => q_isValue (R.th 0) W (by omega) hj
    by_cases ok : allF (okV (aB A) (gv a b d e f g)) (bF (aB A)) 0 = true
    · rw [if_pos ok, if_neg n10, b_gR, if_pos (lK0 LH), lR0_2 LH, b_rcv, if_pos (lK56 LH)] at cls
      rw [okall W] at ok
      have h60 := W.2.2.2.1
      have t6 := CH.2.1.2.2.2.2.2.1
      have val : ∀ h1 : MHp, RR m h1 A → ∀ j : Nat, j < 6 → mX16_isValue (sI h1 m 0 0) m (Int32.ofNat j) (gv a b d e f g j) = some 1 := fun h1 R j hj => by
        rw [hv h1 R j hj, if_pos]
        by_cases q : bF (aB A) ≤ j
        · exact Or.inl q
        · exact Or.inr (ok j (by omega))
      have ref : ∀ h1 : MHp, RR m h1 A → mX16_row h1 m a b d e f g = (gI 17 18 (sI h1 m 0 0) (some m)).bind fun x17 => (if x17 = 60 then (rcv 17 (sI h1 m 0 0) (some m)).bind fun b56 => (mX16_refused (sI h1 m 0 0) b56 3).bind fun r55 => some (r55.1, r55.2) else (gI 17 18 (sI h1 m 0 0) (some m)).bind fun x18 => (gR 17 20 (sI h1 m 0 0) (some m)).bind fun x19 => (pAI 20 (sI h1 m 0 0) x19 (6 * x18) a).bind fun h20 => (gR 17 20 h20 (some m)).bind fun x21 => (pAI 20 h20 x21 ((6 * x18) + 1) b).bind fun h22 => (gR 17 20 h22 (some m)).bind fun x23 => (pAI 20 h22 x23 ((6 * x18) + 2) d).bind fun h24 => (gR 17 20 h24 (some m)).bind fun x25 => (pAI 20 h24 x25 ((6 * x18) + 3) e).bind fun h26 => (gR 17 20 h26 (some m)).bind fun x27 => (pAI 20 h26 x27 ((6 * x18) + 4) f).bind fun h28 => (gR 17 20 h28 (some m)).bind fun x29 => (pAI 20 h28 x29 ((6 * x18) + 5) g).bind fun h30 => (gR 17 23 h30 (some m)).bind fun x31 => (gI 17 18 h30 (some m)).bind fun x32 => (gI 17 19 h30 (some m)).bind fun x33 => (pAI 20 h30 x31 x32 x33).bind fun h34 => (gR 17 24 h34 (some m)).bind fun x35 => (gI 17 18 h34 (some m)).bind fun x36 => (pAI 20 h34 x35 x36 (-1)).bind fun h37 => (gR 17 25 h37 (some m)).bind fun x38 => (gI 17 18 h37 (some m)).bind fun x39 => (pAI 20 h37 x38 x39 (-1)).bind fun h40 => (gR 17 26 h40 (some m)).bind fun x41 => (gI 17 18 h40 (some m)).bind fun x42 => (pAI 20 h40 x41 x42 0).bind fun h43 => (gR 17 27 h43 (some m)).bind fun x44 => (gI 17 18 h43 (some m)).bind fun x45 => (pAI 20 h43 x44 x45 (-1)).bind fun h46 => (gR 17 28 h46 (some m)).bind fun x47 => (gI 17 18 h46 (some m)).bind fun x48 => (pAI 20 h46 x47 x48 1).bind fun h49 => (gI 17 18 h49 (some m)).bind fun x50 => (pI 17 18 h49 (some m) (x50 + 1)).bind fun h51 => (gI 17 18 h51 (some m)).bind fun x52 => (rcv 17 h51 (some m)).bind fun b54 => (mX16_done h51 b54 (x52 - 1)).bind fun r53 => some (r53.1, r53.2)) := fun h1 R => by
        have R2 := R.th 0
        have M := R2.1.1
        have K : hK (sI h1 m 0 0) m = 17 := qK0 M
        have nb := R2.bkS hb
        have v0 : mX16_isValue (sI h1 m 0 0) m 0 a = some 1 := val h1 R 0 (by omega)
        have v1 : mX16_isValue (sI h1 m 0 0) m 1 b = some 1 := val h1 R 1 (by omega)
        have v2 : mX16_isValue (sI h1 m 0 0) m 2 d = some 1 := val h1 R 2 (by omega)
        have v3 : mX16_isValue (sI h1 m 0 0) m 3 e = some 1 := val h1 R 3 (by omega)
        have v4 : mX16_isValue (sI h1 m 0 0) m 4 f = some 1 := val h1 R 4 (by omega)
        have v5 : mX16_isValue (sI h1 m 0 0) m 5 g = some 1 := val h1 R 5 (by omega)
        rw [mX16_row, b_pI, if_pos (qK0 R.1.1), b_gR, if_pos K, if_neg nb, b_rcv, if_pos K, v0, o_bind, if_neg n10, b_rcv, if_pos K, v1, o_bind, if_neg n10, b_rcv, if_pos K, v2, o_bind, if_neg n10, b_rcv, if_pos K, v3, o_bind, if_neg n10, b_rcv, if_pos K, v4, o_bind, if_neg n10, b_rcv, if_pos K, v5, o_bind, if_neg n10]
      by_cases hn : aN A 2 < 60
      · have full : mX9_isFull H (c + 56) = some 0 := by
          rw [mX9_isFull, b_gI, if_pos (lK56 LH), t6, if_pos (by rw [show (60 : Int32) = Int32.ofNat 60 from rfl, lt_of (by omega) (by omega)]; omega)]
        have C2 : CR c (sI H c 15 0) (tb A 0) := CH.tb (by decide)
        have L2 := C2.l
        have ad := p_add (k := 183) L2 C2.2.1.2.2.2.2.2.1 C2.td hn rfl
        have hx2 : va_cpy (hAI (sI H c 15 0) (c + 183)) (hAI (sI H c 15 0) (c + 115)) 0 (aN A 2 * 6) 6 = va_cpy (gv a b d e f g) (hAI (sI H c 15 0) (c + 115)) 0 (aN A 2 * 6) 6 := va_cpy_congr hx
        have ad2 := ad
        rw [show aN (tb A 0) 2 = aN A 2 from rfl, hx2] at ad2
        have K : hK (sI H c 15 0) c = 12 := lK0 L2
        rw [full, o_bind, if_pos rfl, mX11_row_b93, b_pI, if_pos (lK0 LH), b_gI, if_pos K, e_Iself, if_pos rfl, b_gR, if_pos K, lR0_2 L2, b_gR, if_pos K, lR0_4 L2, b_rcv, if_pos (lK56 L2), ad2, o_bind] at cls
        have C3 := CR.rw (W.tb (t := 0)) C2 (gv a b d e f g)
        refine ⟨Int32.ofNat (aN A 2), rwA (tb A 0) (gv a b d e f g), (W.tb (t := 0)).rw (by show 0 < bF (aB A); omega) hn ok, ⟨_, cls, C3, S.oc.tr ((Oc.I0 15 0).tr (((((((Oc.AI 110 _ (by omega)).tr (Oc.AI 111 _ (by omega))).tr (Oc.AI 112 _ (by omega))).tr (Oc.AI 113 _ (by omega))).tr (Oc.AI 114 _ (by omega))).tr (Oc.AI 115 _ (by omega))).tr (Oc.I 56 6 _ (by omega))))⟩, fun h1 R => ?_⟩
        exact r_row W R hn (ref h1 R)
      · have full : mX9_isFull H (c + 56) = some 1 := by
          rw [mX9_isFull, b_gI, if_pos (lK56 LH), t6, if_neg (by rw [show (60 : Int32) = Int32.ofNat 60 from rfl, lt_of (by omega) (by omega)]; omega)]
        rw [full, o_bind, if_neg n10, row_b LH 3 n30] at cls
        refine ⟨-1, tb A 3, W, ⟨_, cls, CH.tb (by decide), S.oc.tr (Oc.I0 15 3)⟩, fun h1 R => ?_⟩
        have R2 := R.th 0
        have M := R2.1.1
        have K : hK (sI h1 m 0 0) m = 17 := qK0 M
        have s18 := R2.2.1.2.2.1
        refine ⟨rtb m (sI h1 m 0 0) 3, ?_, R2.tb (by decide), (Om.th 0).tr Om.tb⟩
        show mX16_row h1 m a b d e f g = _
        rw [ref h1 R, b_gI, if_pos K, s18, if_pos (by rw [show aN A 2 = 60 by omega]; rfl), b_rcv, if_pos K, q_refused M 3, o_bind]
    · rw [if_neg ok, if_pos rfl, row_b LH 2 n20] at cls
      refine ⟨-1, tb A 2, W, ⟨_, cls, CH.tb (by decide), S.oc.tr (Oc.I0 15 2)⟩, fun h1 R => ?_⟩
      have R2 := R.th 0
      have M := R2.1.1
      have K : hK (sI h1 m 0 0) m = 17 := qK0 M
      have nb := R2.bkS hb
      refine ⟨rtb m (sI h1 m 0 0) 2, ?_, R2.tb (by decide), (Om.th 0).tr Om.tb⟩
      rw [okall W] at ok
      have h75 : mX16_row_b75 (sI h1 m 0 0) m = some (-1, rtb m (sI h1 m 0 0) 2) := by rw [mX16_row_b75, b_rcv, if_pos K, q_refused M 2, o_bind]
      show mX16_row h1 m a b d e f g = _
      have nall : ∃ j : Nat, j < 6 ∧ mX16_isValue (sI h1 m 0 0) m (Int32.ofNat j) (gv a b d e f g j) = some 0 := by
        refine Classical.byContradiction (fun hno => ok (fun j hj => ?_))
        refine Classical.byContradiction (fun hno2 => hno ⟨j, by omega, ?_⟩)
        rw [hv h1 R j (by omega), if_neg]
        rintro (h | h)
        · omega
        · exact hno2 h
      have two : ∀ j : Nat, j < 6 → mX16_isValue (sI h1 m 0 0) m (Int32.ofNat j) (gv a b d e f g j) = some 1 ∨ mX16_isValue (sI h1 m 0 0) m (Int32.ofNat j) (gv a b d e f g j) = some 0 := fun j hj => by
        rw [hv h1 R j hj]
        by_cases q : bF (aB A) ≤ j ∨ ((-1) ≤ gv a b d e f g j ∧ gv a b d e f g j ≤ Int32.ofNat (bT (aB A) j))
        · rw [if_pos q]; exact Or.inl rfl
        · rw [if_neg q]; exact Or.inr rfl
      rw [mX16_row, b_pI, if_pos (qK0 R.1.1), b_gR, if_pos K, if_neg nb]
      rcases two 0 (by omega) with v | v
      · rw [b_rcv, if_pos K, show mX16_isValue (sI h1 m 0 0) m 0 a = some 1 from v, o_bind, if_neg n10]
        rcases two 1 (by omega) with v1 | v1
        · rw [b_rcv, if_pos K, show mX16_isValue (sI h1 m 0 0) m 1 b = some 1 from v1, o_bind, if_neg n10]
          rcases two 2 (by omega) with v2 | v2
          · rw [b_rcv, if_pos K, show mX16_isValue (sI h1 m 0 0) m 2 d = some 1 from v2, o_bind, if_neg n10]
            rcases two 3 (by omega) with v3 | v3
            · rw [b_rcv, if_pos K, show mX16_isValue (sI h1 m 0 0) m 3 e = some 1 from v3, o_bind, if_neg n10]
              rcases two 4 (by omega) with v4 | v4
              · rw [b_rcv, if_pos K, show mX16_isValue (sI h1 m 0 0) m 4 f = some 1 from v4, o_bind, if_neg n10]
                rcases two 5 (by omega) with v5 | v5
                · exfalso
                  obtain ⟨j, hj, hz⟩ := nall
                  have all : mX16_isValue (sI h1 m 0 0) m (Int32.ofNat j) (gv a b d e f g j) = some 1 := by
                    rcases (show j = 0 ∨ j = 1 ∨ j = 2 ∨ j = 3 ∨ j = 4 ∨ j = 5 by omega) with rfl | rfl | rfl | rfl | rfl | rfl
                    · exact v
                    · exact v1
                    · exact v2
                    · exact v3
                    · exact v4
                    · exact v5
                  rw [all] at hz
                  exact absurd (Option.some.inj hz) (by decide)
                · rw [b_rcv, if_pos K, show mX16_isValue (sI h1 m 0 0) m 5 g = some 0 from v5, o_bind, if_pos rfl, h75]
              · rw [b_rcv, if_pos K, show mX16_isValue (sI h1 m 0 0) m 4 f = some 0 from v4, o_bind, if_pos rfl, h75]
            · rw [b_rcv, if_pos K, show mX16_isValue (sI h1 m 0 0) m 3 e = some 0 from v3, o_bind, if_pos rfl, h75]
          · rw [b_rcv, if_pos K, show mX16_isValue (sI h1 m 0 0) m 2 d = some 0 from v2, o_bind, if_pos rfl, h75]
        · rw [b_rcv, if_pos K, show mX16_isValue (sI h1 m 0 0) m 1 b = some 0 from v1, o_bind, if_pos rfl, h75]
      · rw [b_rcv, if_pos K, show mX16_isValue (sI h1 m 0 0) m 0 a = some 0 from v, o_bind, if_pos rfl, h75]

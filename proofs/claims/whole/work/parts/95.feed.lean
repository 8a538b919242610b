/-! feed -/
def byt (v s : Int32) : Int32 := ((v >>> (s &&& 31)).toInt8.toInt32).toInt8.toInt32
def fdS (A : AS) (v : Int32) : AS := setN (setA A 0 (va_up (aA A 0) (aN A 0) v)) 0 (aN A 0 + 1)
theorem byt_b (v s : Int32) : (byt v s).toInt8.toInt32 = byt v s := by
  unfold byt
  simp
theorem WA.fd {A : AS} (W : WA A) {v : Int32} (hv : v.toInt8.toInt32 = v) (h0 : aN A 0 < 500) : WA (fdS A v) := by
  obtain ⟨v1, v2, v3, v4, v5, v6, v7, v8, v9, v10, v11, u1, u2, u3, u4, u5, u6, u7, u8, z1, z2, z3⟩ := W
  refine ⟨v1, by show aN A 0 + 1 ≤ 500; omega, v3, v4, v5, v6, v7, v8, v9, v10, v11, u1, u2, u3, u4, u5, u6, u7, u8, fun k => ?_, z2, z3⟩
  show (va_up (aA A 0) (aN A 0) v k).toInt8.toInt32 = va_up (aA A 0) (aN A 0) v k
  unfold va_up
  by_cases q : k = aN A 0
  · rw [if_pos q, hv]
  · rw [if_neg q, z1]
theorem CR.fd {c : Nat} {h : MHp} {A : AS} (W : WA A) (C : CR c h A) (v : Int32) : CR c (sI (sAI h (c + 1) (va_up (hAI h (c + 1)) (aN A 0) v)) c 13 (Int32.ofNat (aN A 0 + 1))) (fdS A v) := by
  have h8 := W.2.2.1
  have hw := W.1.2.1
  obtain ⟨⟨b9, s9, x1, x2, x3, x4, x5, x6⟩, ⟨y1, y2, y3, y4, y5, y6, y7, y8, y9⟩, ⟨z1, z2, z3, z4, z5, z6, z7, z8, z9, z10, z11, z12⟩, w1, w2, w3, w4⟩ := C
  have gI : ∀ a j : Nat, (a ≠ c ∨ j ≠ 13) → hI (sI (sAI h (c + 1) (va_up (hAI h (c + 1)) (aN A 0) v)) c 13 (Int32.ofNat (aN A 0 + 1))) a j = hI h a j := by
    intro a j d
    rw [e_sI, if_neg (by omega)]
    rw [e_I_sAI]
  have ga : ∀ a : Nat, a ≠ (c + 1) → hAI (sI (sAI h (c + 1) (va_up (hAI h (c + 1)) (aN A 0) v)) c 13 (Int32.ofNat (aN A 0 + 1))) a = hAI h a := by
    intro a d
    rw [e_AI_sI]
    rw [e_sAI, if_neg (by omega)]
  have ag9 : ∀ lo hi : Nat, ((c + 1) < lo ∨ hi ≤ c) → Ag lo hi h (sI (sAI h (c + 1) (va_up (hAI h (c + 1)) (aN A 0) v)) c 13 (Int32.ofNat (aN A 0 + 1))) := fun lo hi d => (Ag.AI _ _ (by omega)).tr (Ag.I _ _ _ (by omega))
  refine ⟨⟨b9, s9, x1, x2, x3, x4, x5.ag (ag9 _ _ (by omega)) hw, x6⟩, ⟨(by rw [e_sI, if_pos ⟨rfl, rfl⟩]; rfl), (by rw [gI _ _ (by omega)]; exact y2), (by rw [gI _ _ (by omega)]; exact y3), (by rw [gI _ _ (by omega)]; exact y4), (by rw [gI _ _ (by omega)]; exact y5), (by rw [gI _ _ (by omega)]; exact y6), (by rw [gI _ _ (by omega)]; exact y7), (by rw [gI _ _ (by omega)]; exact y8), (by rw [gI _ _ (by omega)]; exact y9)⟩, ⟨(by rw [ga _ (by omega)]; exact z1), (by rw [ga _ (by omega)]; exact z2), (by rw [ga _ (by omega)]; exact z3), (by rw [ga _ (by omega)]; exact z4), (by rw [e_AI_sI, e_sAI, if_pos rfl, z5]; rfl), (by rw [ga _ (by omega)]; exact z6), (by rw [ga _ (by omega)]; exact z7), (by rw [ga _ (by omega)]; exact z8), (by rw [ga _ (by omega)]; exact z9), (by rw [ga _ (by omega)]; exact z10), (by rw [ga _ (by omega)]; exact z11), (by rw [ga _ (by omega)]; exact z12)⟩, (by rw [ga _ (by omega), ga _ (by omega)]; exact w1), (by rw [ga _ (by omega)]; exact w2), (by rw [gI _ 0 (by omega), gI _ 2 (by omega), ga (c + 207) (by omega)]; exact w3), fun k9 hk => (fun (hk2 : k9 < aN A 1) => ⟨(w4 k9 hk2).1.ag (ag9 _ _ (by omega)), (w4 k9 hk2).2.ag (ag9 _ _ (by omega))⟩) hk⟩

theorem RR.fd {m : Nat} {h : MHp} {A : AS} (C : RR m h A) (v : Int32) : RR m (sI (sAI h (m + 3) (va_up (hAI h (m + 3)) (aN A 0) v)) m 10 (Int32.ofNat (aN A 0 + 1))) (fdS A v) := by
  obtain ⟨x0q, ⟨y1, y2, y3, y4, y5, y6, y7, y8, y9, y10, y11, y12, y13, y14⟩, ⟨z1, z2, z3, z4, z5, z6, z7, z8, z9⟩, w1, w2, w3⟩ := C
  have gI : ∀ a j : Nat, (a ≠ m ∨ j ≠ 10) → hI (sI (sAI h (m + 3) (va_up (hAI h (m + 3)) (aN A 0) v)) m 10 (Int32.ofNat (aN A 0 + 1))) a j = hI h a j := by
    intro a j d
    rw [e_sI, if_neg (by omega)]
    rw [e_I_sAI]
  have ga : ∀ a : Nat, a ≠ (m + 3) → hAI (sI (sAI h (m + 3) (va_up (hAI h (m + 3)) (aN A 0) v)) m 10 (Int32.ofNat (aN A 0 + 1))) a = hAI h a := by
    intro a d
    rw [e_AI_sI]
    rw [e_sAI, if_neg (by omega)]
  have ag9 : ∀ lo hi : Nat, ((m + 3) < lo ∨ hi ≤ m) → Ag lo hi h (sI (sAI h (m + 3) (va_up (hAI h (m + 3)) (aN A 0) v)) m 10 (Int32.ofNat (aN A 0 + 1))) := fun lo hi d => (Ag.AI _ _ (by omega)).tr (Ag.I _ _ _ (by omega))
  refine ⟨x0q.ag (ag9 _ _ (by omega)) (Nat.le_refl _) x0q.1 rfl, ⟨(by rw [e_sI, if_pos ⟨rfl, rfl⟩]; rfl), (by rw [gI _ _ (by omega)]; exact y2), (by rw [gI _ _ (by omega)]; exact y3), (by rw [gI _ _ (by omega)]; exact y4), (by rw [gI _ _ (by omega)]; exact y5), (by rw [gI _ _ (by omega)]; exact y6), (by rw [gI _ _ (by omega)]; exact y7), (by rw [gI _ _ (by omega)]; exact y8), (by rw [gI _ _ (by omega)]; exact y9), (by rw [gI _ _ (by omega)]; exact y10), (by rw [gI _ _ (by omega)]; exact y11), (by rw [gI _ _ (by omega)]; exact y12), (by rw [gI _ _ (by omega)]; exact y13), (by rw [gI _ _ (by omega)]; exact y14)⟩, ⟨(by rw [e_AI_sI, e_sAI, if_pos rfl, z1]; rfl), (by rw [ga _ (by omega)]; exact z2), (by rw [ga _ (by omega)]; exact z3), (by rw [ga _ (by omega)]; exact z4), (by rw [ga _ (by omega)]; exact z5), (by rw [ga _ (by omega), ga _ (by omega), ga _ (by omega)]; exact z6), (by rw [ga _ (by omega)]; exact z7), (by rw [ga _ (by omega)]; exact z8), (by rw [ga _ (by omega)]; exact z9)⟩, (by rw [ga _ (by omega)]; exact w1), (by rw [ga _ (by omega)]; exact w2), ?_⟩
  · intro k hk
    obtain ⟨p, p1, p2, p3, p4⟩ := w3 k hk
    obtain ⟨-, -, -, -, ⟨p5, p6⟩, -⟩ := id p2
    exact ⟨p, p1, p2.ag (ag9 _ _ (by omega)) (Nat.le_refl _), p3.ag (ag9 _ _ (by omega)), p4⟩

theorem fdN (A : AS) (v : Int32) : aN (fdS A v) 0 = aN A 0 + 1 := rfl
theorem c_fd {c : Nat} {h : MHp} {A : AS} (C : CR c h A) (W : WA A) (ht : aN A 0 < 500) (v1 v2 : Int32) (hv : ¬ v2 < 0) : ∃ h1 : MHp, (∀ n : Nat, mX11_layOnTape_l3 (n + 1) h c v1 v2 = mX11_layOnTape_l3 n h1 c v1 (v2 + (-8))) ∧ CR c h1 (fdS A (byt v1 v2)) ∧ WA (fdS A (byt v1 v2)) ∧ Oc c h h1 := by
  have L := C.l
  have t := C.2.1.1
  have bd := bad_n (k := aN A 0) (n := 500) (by omega) (by omega)
  have clr : (Int32.ofNat (aN A 0)).toNatClampNeg = aN A 0 := cl_of (by omega)
  have c5 : ¬ Int32.ofNat 500 ≤ Int32.ofNat (aN A 0) := by rw [le_of (by omega) (by omega)]; omega
  refine ⟨_, fun n => ?_, CR.fd W C (byt v1 v2), W.fd (byt_b v1 v2) ht, (Oc.AI 1 _ (by decide)).tr (Oc.I0 13 _)⟩
  rw [mX11_layOnTape_l3, if_neg hv, b_gI, if_pos (lK0 L), t, b_gR, if_pos (lK0 L), lR0_0 L, b_gN, if_pos (lK1 L), lN1 L, if_neg c5, b_gR, if_pos (lK0 L), lR0_0 L, b_gI, if_pos (lK0 L), t, b_pAI, if_pos (lK1 L), lN1 L, if_neg bd, clr, b_gI, if_pos (show hK (sAI h (c + 1) _) c = 12 from lK0 L), e_I_sAI, t, b_pI, if_pos (show hK (sAI h (c + 1) _) c = 12 from lK0 L), s1_of]
  rfl
def fd4 (A : AS) (v : Int32) : AS := fdS (fdS (fdS (fdS A (byt v 24)) (byt v 16)) (byt v 8)) (byt v 0)
theorem c_lay {c : Nat} {h : MHp} {A : AS} (C : CR c h A) (W : WA A) (ht : aN A 0 + 4 ≤ 500) (v : Int32) : ∃ h1 : MHp, mX11_layOnTape h c v = some h1 ∧ CR c h1 (fd4 A v) ∧ WA (fd4 A v) ∧ Oc c h h1 := by
  obtain ⟨n, hn⟩ : ∃ n : Nat, FUEL = n + 5 := ⟨FUEL - 5, by unfold FUEL; omega⟩
  obtain ⟨h1, e1, C1, W1, O1⟩ := c_fd C W (by omega) v 24 (by decide)
  have n1 := fdN A (byt v 24)
  obtain ⟨h2, e2, C2, W2, O2⟩ := c_fd C1 W1 (by omega) v 16 (by decide)
  have n2 := fdN (fdS A (byt v 24)) (byt v 16)
  obtain ⟨h3, e3, C3, W3, O3⟩ := c_fd C2 W2 (by omega) v 8 (by decide)
  have n3 := fdN (fdS (fdS A (byt v 24)) (byt v 16)) (byt v 8)
  obtain ⟨h4, e4, C4, W4, O4⟩ := c_fd C3 W3 (by omega) v 0 (by decide)
  refine ⟨h4, ?_, C4, W4, ((O1.tr O2).tr O3).tr O4⟩
  have g1 : (24 : Int32) + (-8) = 16 := by decide
  have g2 : (16 : Int32) + (-8) = 8 := by decide
  have g3 : (8 : Int32) + (-8) = 0 := by decide
  have g4 : (0 : Int32) + (-8) = -8 := by decide
  rw [mX11_layOnTape, hn, e1, g1, e2, g2, e3, g3, e4, g4, mX11_layOnTape_l3, if_pos (by decide)]
theorem fd4N (A : AS) (v : Int32) : aN (fd4 A v) 0 = aN A 0 + 4 := rfl
theorem q_fd {m : Nat} {h : MHp} {A : AS} (R : RR m h A) (ht : aN A 0 < 500) (t0 v6 s : Int32) (hs : 24 - (8 * (v6 - v6 / 4 * 4)) = s) : ∃ h1 : MHp, (∀ (k23 : MHp → Nat → Int32 → Int32 → Int32 → Int32 → Int32 → Int32 → Option (Int32 × MHp)) (v1 v2 v3 v4 v5 : Int32), mX16_feed_b76 k23 h m v1 v2 v3 v4 v5 v6 t0 = k23 h1 m v1 v2 v3 v4 v5 (v6 + 1)) ∧ RR m h1 (fdS A (byt t0 s)) ∧ Om m h h1 := by
  have M := R.1.1
  have t := R.2.1.1
  have bd := bad_n (k := aN A 0) (n := 500) (by omega) (by omega)
  have clr : (Int32.ofNat (aN A 0)).toNatClampNeg = aN A 0 := cl_of (by omega)
  refine ⟨_, fun k23 v1 v2 v3 v4 v5 => ?_, R.fd (byt t0 s), (Om.AI _ _ (by omega)).tr (Om.I 10 _)⟩
  rw [mX16_feed_b76, b_gR, if_pos (qK0 M), qR9 M, b_gI, if_pos (qK0 M), t, b_pAI, if_pos (qK3 M), qN3 M, if_neg bd, clr, b_gI, if_pos (show hK (sAI h (m + 3) _) m = 17 from qK0 M), e_I_sAI, t, b_pI, if_pos (show hK (sAI h (m + 3) _) m = 17 from qK0 M), s1_of, hs]
  rfl
theorem q_lay0 {m : Nat} {h : MHp} {A : AS} (R : RR m h A) (ht : aN A 0 + 4 ≤ 500) (v1 v2 v3 v4 v5 : Int32) : ∃ h1 : MHp, (∀ n : Nat, mX16_feed_l23 (n + 4) h m v1 v2 v3 v4 v5 0 = mX16_feed_l23 n h1 m v1 v2 v3 v4 v5 4) ∧ RR m h1 (fd4 A v1) ∧ Om m h h1 := by
  obtain ⟨h1, e1, R1, O1⟩ := q_fd R (by omega) v1 0 24 (by decide)
  have n1 := fdN A (byt v1 24)
  obtain ⟨h2, e2, R2, O2⟩ := q_fd R1 (by omega) v1 1 16 (by decide)
  have n2 := fdN (fdS A (byt v1 24)) (byt v1 16)
  obtain ⟨h3, e3, R3, O3⟩ := q_fd R2 (by omega) v1 2 8 (by decide)
  have n3 := fdN (fdS (fdS A (byt v1 24)) (byt v1 16)) (byt v1 8)
  obtain ⟨h4, e4, R4, O4⟩ := q_fd R3 (by omega) v1 3 0 (by decide)
  refine ⟨h4, fun n => ?_, R4, ((O1.tr O2).tr O3).tr O4⟩
  rw [mX16_feed_l23, if_neg (show ¬ (20 : Int32) ≤ 0 by decide), if_neg (show ¬ (4 : Int32) ≤ 0 by decide), e1, show (0 : Int32) + 1 = 1 from rfl]
  rw [mX16_feed_l23, if_neg (show ¬ (20 : Int32) ≤ 1 by decide), if_neg (show ¬ (4 : Int32) ≤ 1 by decide), e2, show (1 : Int32) + 1 = 2 from rfl]
  rw [mX16_feed_l23, if_neg (show ¬ (20 : Int32) ≤ 2 by decide), if_neg (show ¬ (4 : Int32) ≤ 2 by decide), e3, show (2 : Int32) + 1 = 3 from rfl]
  rw [mX16_feed_l23, if_neg (show ¬ (20 : Int32) ≤ 3 by decide), if_neg (show ¬ (4 : Int32) ≤ 3 by decide), e4, show (3 : Int32) + 1 = 4 from rfl]
theorem q_lay1 {m : Nat} {h : MHp} {A : AS} (R : RR m h A) (ht : aN A 0 + 4 ≤ 500) (v1 v2 v3 v4 v5 : Int32) : ∃ h1 : MHp, (∀ n : Nat, mX16_feed_l23 (n + 4) h m v1 v2 v3 v4 v5 4 = mX16_feed_l23 n h1 m v1 v2 v3 v4 v5 8) ∧ RR m h1 (fd4 A v2) ∧ Om m h h1 := by
  obtain ⟨h1, e1, R1, O1⟩ := q_fd R (by omega) v2 4 24 (by decide)
  have n1 := fdN A (byt v2 24)
  obtain ⟨h2, e2, R2, O2⟩ := q_fd R1 (by omega) v2 5 16 (by decide)
  have n2 := fdN (fdS A (byt v2 24)) (byt v2 16)
  obtain ⟨h3, e3, R3, O3⟩ := q_fd R2 (by omega) v2 6 8 (by decide)
  have n3 := fdN (fdS (fdS A (byt v2 24)) (byt v2 16)) (byt v2 8)
  obtain ⟨h4, e4, R4, O4⟩ := q_fd R3 (by omega) v2 7 0 (by decide)
  refine ⟨h4, fun n => ?_, R4, ((O1.tr O2).tr O3).tr O4⟩
  rw [mX16_feed_l23, if_neg (show ¬ (20 : Int32) ≤ 4 by decide), if_pos (show (4 : Int32) ≤ 4 by decide), if_neg (show ¬ (8 : Int32) ≤ 4 by decide), e1, show (4 : Int32) + 1 = 5 from rfl]
  rw [mX16_feed_l23, if_neg (show ¬ (20 : Int32) ≤ 5 by decide), if_pos (show (4 : Int32) ≤ 5 by decide), if_neg (show ¬ (8 : Int32) ≤ 5 by decide), e2, show (5 : Int32) + 1 = 6 from rfl]
  rw [mX16_feed_l23, if_neg (show ¬ (20 : Int32) ≤ 6 by decide), if_pos (show (4 : Int32) ≤ 6 by decide), if_neg (show ¬ (8 : Int32) ≤ 6 by decide), e3, show (6 : Int32) + 1 = 7 from rfl]
  rw [mX16_feed_l23, if_neg (show ¬ (20 : Int32) ≤ 7 by decide), if_pos (show (4 : Int32) ≤ 7 by decide), if_neg (show ¬ (8 : Int32) ≤ 7 by decide), e4, show (7 : Int32) + 1 = 8 from rfl]
theorem q_lay2 {m : Nat} {h : MHp} {A : AS} (R : RR m h A) (ht : aN A 0 + 4 ≤ 500) (v1 v2 v3 v4 v5 : Int32) : ∃ h1 : MHp, (∀ n : Nat, mX16_feed_l23 (n + 4) h m v1 v2 v3 v4 v5 8 = mX16_feed_l23 n h1 m v1 v2 v3 v4 v5 12) ∧ RR m h1 (fd4 A v3) ∧ Om m h h1 := by
  obtain ⟨h1, e1, R1, O1⟩ := q_fd R (by omega) v3 8 24 (by decide)
  have n1 := fdN A (byt v3 24)
  obtain ⟨h2, e2, R2, O2⟩ := q_fd R1 (by omega) v3 9 16 (by decide)
  have n2 := fdN (fdS A (byt v3 24)) (byt v3 16)
  obtain ⟨h3, e3, R3, O3⟩ := q_fd R2 (by omega) v3 10 8 (by decide)
  have n3 := fdN (fdS (fdS A (byt v3 24)) (byt v3 16)) (byt v3 8)
  obtain ⟨h4, e4, R4, O4⟩ := q_fd R3 (by omega) v3 11 0 (by decide)
  refine ⟨h4, fun n => ?_, R4, ((O1.tr O2).tr O3).tr O4⟩
  rw [mX16_feed_l23, if_neg (show ¬ (20 : Int32) ≤ 8 by decide), if_pos (show (4 : Int32) ≤ 8 by decide), if_pos (show (8 : Int32) ≤ 8 by decide), if_neg (show ¬ (12 : Int32) ≤ 8 by decide), e1, show (8 : Int32) + 1 = 9 from rfl]
  rw [mX16_feed_l23, if_neg (show ¬ (20 : Int32) ≤ 9 by decide), if_pos (show (4 : Int32) ≤ 9 by decide), if_pos (show (8 : Int32) ≤ 9 by decide), if_neg (show ¬ (12 : Int32) ≤ 9 by decide), e2, show (9 : Int32) + 1 = 10 from rfl]
  rw [mX16_feed_l23, if_neg (show ¬ (20 : Int32) ≤ 10 by decide), if_pos (show (4 : Int32) ≤ 10 by decide), if_pos (show (8 : Int32) ≤ 10 by decide), if_neg (show ¬ (12 : Int32) ≤ 10 by decide), e3, show (10 : Int32) + 1 = 11 from rfl]
  rw [mX16_feed_l23, if_neg (show ¬ (20 : Int32) ≤ 11 by decide), if_pos (show (4 : Int32) ≤ 11 by decide), if_pos (show (8 : Int32) ≤ 11 by decide), if_neg (show ¬ (12 : Int32) ≤ 11 by decide), e4, show (11 : Int32) + 1 = 12 from rfl]
theorem q_lay3 {m : Nat} {h : MHp} {A : AS} (R : RR m h A) (ht : aN A 0 + 4 ≤ 500) (v1 v2 v3 v4 v5 : Int32) : ∃ h1 : MHp, (∀ n : Nat, mX16_feed_l23 (n + 4) h m v1 v2 v3 v4 v5 12 = mX16_feed_l23 n h1 m v1 v2 v3 v4 v5 16) ∧ RR m h1 (fd4 A v4) ∧ Om m h h1 := by
  obtain ⟨h1, e1, R1, O1⟩ := q_fd R (by omega) v4 12 24 (by decide)
  have n1 := fdN A (byt v4 24)
  obtain ⟨h2, e2, R2, O2⟩ := q_fd R1 (by omega) v4 13 16 (by decide)
  have n2 := fdN (fdS A (byt v4 24)) (byt v4 16)
  obtain ⟨h3, e3, R3, O3⟩ := q_fd R2 (by omega) v4 14 8 (by decide)
  have n3 := fdN (fdS (fdS A (byt v4 24)) (byt v4 16)) (byt v4 8)
  obtain ⟨h4, e4, R4, O4⟩ := q_fd R3 (by omega) v4 15 0 (by decide)
  refine ⟨h4, fun n => ?_, R4, ((O1.tr O2).tr O3).tr O4⟩
  rw [mX16_feed_l23, if_neg (show ¬ (20 : Int32) ≤ 12 by decide), if_pos (show (4 : Int32) ≤ 12 by decide), if_pos (show (8 : Int32) ≤ 12 by decide), if_pos (show (12 : Int32) ≤ 12 by decide), if_neg (show ¬ (16 : Int32) ≤ 12 by decide), e1, show (12 : Int32) + 1 = 13 from rfl]
  rw [mX16_feed_l23, if_neg (show ¬ (20 : Int32) ≤ 13 by decide), if_pos (show (4 : Int32) ≤ 13 by decide), if_pos (show (8 : Int32) ≤ 13 by decide), if_pos (show (12 : Int32) ≤ 13 by decide), if_neg (show ¬ (16 : Int32) ≤ 13 by decide), e2, show (13 : Int32) + 1 = 14 from rfl]
  rw [mX16_feed_l23, if_neg (show ¬ (20 : Int32) ≤ 14 by decide), if_pos (show (4 : Int32) ≤ 14 by decide), if_pos (show (8 : Int32) ≤ 14 by decide), if_pos (show (12 : Int32) ≤ 14 by decide), if_neg (show ¬ (16 : Int32) ≤ 14 by decide), e3, show (14 : Int32) + 1 = 15 from rfl]
  rw [mX16_feed_l23, if_neg (show ¬ (20 : Int32) ≤ 15 by decide), if_pos (show (4 : Int32) ≤ 15 by decide), if_pos (show (8 : Int32) ≤ 15 by decide), if_pos (show (12 : Int32) ≤ 15 by decide), if_neg (show ¬ (16 : Int32) ≤ 15 by decide), e4, show (15 : Int32) + 1 = 16 from rfl]
theorem q_lay4 {m : Nat} {h : MHp} {A : AS} (R : RR m h A) (ht : aN A 0 + 4 ≤ 500) (v1 v2 v3 v4 v5 : Int32) : ∃ h1 : MHp, (∀ n : Nat, mX16_feed_l23 (n + 4) h m v1 v2 v3 v4 v5 16 = mX16_feed_l23 n h1 m v1 v2 v3 v4 v5 20) ∧ RR m h1 (fd4 A v5) ∧ Om m h h1 := by
  obtain ⟨h1, e1, R1, O1⟩ := q_fd R (by omega) v5 16 24 (by decide)
  have n1 := fdN A (byt v5 24)
  obtain ⟨h2, e2, R2, O2⟩ := q_fd R1 (by omega) v5 17 16 (by decide)
  have n2 := fdN (fdS A (byt v5 24)) (byt v5 16)
  obtain ⟨h3, e3, R3, O3⟩ := q_fd R2 (by omega) v5 18 8 (by decide)
  have n3 := fdN (fdS (fdS A (byt v5 24)) (byt v5 16)) (byt v5 8)
  obtain ⟨h4, e4, R4, O4⟩ := q_fd R3 (by omega) v5 19 0 (by decide)
  refine ⟨h4, fun n => ?_, R4, ((O1.tr O2).tr O3).tr O4⟩
  rw [mX16_feed_l23, if_neg (show ¬ (20 : Int32) ≤ 16 by decide), if_pos (show (4 : Int32) ≤ 16 by decide), if_pos (show (8 : Int32) ≤ 16 by decide), if_pos (show (12 : Int32) ≤ 16 by decide), if_pos (show (16 : Int32) ≤ 16 by decide), e1, show (16 : Int32) + 1 = 17 from rfl]
  rw [mX16_feed_l23, if_neg (show ¬ (20 : Int32) ≤ 17 by decide), if_pos (show (4 : Int32) ≤ 17 by decide), if_pos (show (8 : Int32) ≤ 17 by decide), if_pos (show (12 : Int32) ≤ 17 by decide), if_pos (show (16 : Int32) ≤ 17 by decide), e2, show (17 : Int32) + 1 = 18 from rfl]
  rw [mX16_feed_l23, if_neg (show ¬ (20 : Int32) ≤ 18 by decide), if_pos (show (4 : Int32) ≤ 18 by decide), if_pos (show (8 : Int32) ≤ 18 by decide), if_pos (show (12 : Int32) ≤ 18 by decide), if_pos (show (16 : Int32) ≤ 18 by decide), e3, show (18 : Int32) + 1 = 19 from rfl]
  rw [mX16_feed_l23, if_neg (show ¬ (20 : Int32) ≤ 19 by decide), if_pos (show (4 : Int32) ≤ 19 by decide), if_pos (show (8 : Int32) ≤ 19 by decide), if_pos (show (12 : Int32) ≤ 19 by decide), if_pos (show (16 : Int32) ≤ 19 by decide), e4, show (19 : Int32) + 1 = 20 from rfl]
theorem q_feed {m : Nat} {h : MHp} {A : AS} (R : RR m h A) (ht : aN A 0 + 20 ≤ 500) (v1 v2 v3 v4 v5 : Int32) : ∃ h1 : MHp, mX16_feed_l23 FUEL h m v1 v2 v3 v4 v5 0 = some (Int32.ofNat (aN A 0 + 20), h1) ∧ RR m h1 (fd4 (fd4 (fd4 (fd4 (fd4 A v1) v2) v3) v4) v5) ∧ Om m h h1 := by
  obtain ⟨n, hn⟩ : ∃ n : Nat, FUEL = n + 1 + 4 + 4 + 4 + 4 + 4 := ⟨FUEL - 21, by unfold FUEL; omega⟩
  obtain ⟨h1, e1, R1, O1⟩ := q_lay0 R (by omega) v1 v2 v3 v4 v5
  have n1 := fd4N A v1
  obtain ⟨h2, e2, R2, O2⟩ := q_lay1 R1 (by omega) v1 v2 v3 v4 v5
  have n2 := fd4N (fd4 A v1) v2
  obtain ⟨h3, e3, R3, O3⟩ := q_lay2 R2 (by omega) v1 v2 v3 v4 v5
  have n3 := fd4N (fd4 (fd4 A v1) v2) v3
  obtain ⟨h4, e4, R4, O4⟩ := q_lay3 R3 (by omega) v1 v2 v3 v4 v5
  have n4 := fd4N (fd4 (fd4 (fd4 A v1) v2) v3) v4
  obtain ⟨h5, e5, R5, O5⟩ := q_lay4 R4 (by omega) v1 v2 v3 v4 v5
  have n5 := fd4N (fd4 (fd4 (fd4 (fd4 A v1) v2) v3) v4) v5
  have t5 := R5.2.1.1
  rw [show aN (fd4 (fd4 (fd4 (fd4 (fd4 A v1) v2) v3) v4) v5) 0 = aN A 0 + 20 by omega] at t5
  refine ⟨h5, ?_, R5, (((O1.tr O2).tr O3).tr O4).tr O5⟩
  rw [hn, e1, e2, e3, e4, e5, mX16_feed_l23, if_pos (show (20 : Int32) ≤ 20 by decide), b_gI, if_pos (qK0 R5.1.1), t5]
theorem x_feed {c m : Nat} {h : MHp} {A : AS} (C : CR c h A) (W : WA A) (v1 v2 v3 v4 v5 : Int32) : XS c m h A (mX11_feed h c v1 v2 v3 v4 v5) (fun h1 => mX16_feed h1 m v1 v2 v3 v4 v5) := by
  have L := C.l
  have t := C.2.1.1
  have h5 := W.2.1
  by_cases hn : aN A 0 ≤ 480
  · have c1 : Int32.ofNat (aN A 0) ≤ 480 := by rw [show (480 : Int32) = Int32.ofNat 480 from rfl, le_of (by omega) (by omega)]; omega
    have c2 : Int32.ofNat (aN A 0) + 20 ≤ 500 := by
      rw [show (500 : Int32) = Int32.ofNat 500 from rfl, show (20 : Int32) = Int32.ofNat 20 from rfl, ← Int32.ofNat_add, le_of (by omega) (by omega)]; omega
    obtain ⟨h1, e1, C1, W1, O1⟩ := c_lay C W (by omega) v1
    have n1 := fd4N A v1
    obtain ⟨h2, e2, C2, W2, O2⟩ := c_lay C1 W1 (by omega) v2
    have n2 := fd4N (fd4 A v1) v2
    obtain ⟨h3, e3, C3, W3, O3⟩ := c_lay C2 W2 (by omega) v3
    have n3 := fd4N (fd4 (fd4 A v1) v2) v3
    obtain ⟨h4, e4, C4, W4, O4⟩ := c_lay C3 W3 (by omega) v4
    have n4 := fd4N (fd4 (fd4 (fd4 A v1) v2) v3) v4
    obtain ⟨h5, e5, C5, W5, O5⟩ := c_lay C4 W4 (by omega) v5
    have n5 := fd4N (fd4 (fd4 (fd4 (fd4 A v1) v2) v3) v4) v5
    have t5 := C5.2.1.1
    rw [show aN (fd4 (fd4 (fd4 (fd4 (fd4 A v1) v2) v3) v4) v5) 0 = aN A 0 + 20 by omega] at t5
    refine ⟨Int32.ofNat (aN A 0 + 20), _, W5, ⟨h5, ?_, C5, (((O1.tr O2).tr O3).tr O4).tr O5⟩, fun g R => ?_⟩
    · rw [mX11_feed, b_gI, if_pos (lK0 L), t, if_pos c1, b_rcv, if_pos (lK0 L), e1, o_bind, b_rcv, if_pos (lK0 C1.l), e2, o_bind, b_rcv, if_pos (lK0 C2.l), e3, o_bind, b_rcv, if_pos (lK0 C3.l), e4, o_bind, b_rcv, if_pos (lK0 C4.l), e5, o_bind, b_gI, if_pos (lK0 C5.l), t5]
    · have R2 := R.th 0
      obtain ⟨g2, f1, R3, O⟩ := q_feed R2 (by omega) v1 v2 v3 v4 v5
      refine ⟨g2, ?_, R3, (Om.th 0).tr O⟩
      show mX16_feed g m v1 v2 v3 v4 v5 = _
      rw [mX16_feed, b_pI, if_pos (qK0 R.1.1), b_gI, if_pos (qK0 R2.1.1), R2.2.1.1, if_pos c2, f1]
  · have c1 : ¬ Int32.ofNat (aN A 0) ≤ 480 := by rw [show (480 : Int32) = Int32.ofNat 480 from rfl, le_of (by omega) (by omega)]; omega
    have c2 : ¬ Int32.ofNat (aN A 0) + 20 ≤ 500 := by
      rw [show (500 : Int32) = Int32.ofNat 500 from rfl, show (20 : Int32) = Int32.ofNat 20 from rfl, ← Int32.ofNat_add, le_of (by omega) (by omega)]; omega
    refine ⟨-1, A, W, ⟨h, ?_, C, Oc.rf⟩, fun g R => ⟨sI g m 0 0, ?_, R.th 0, Om.th 0⟩⟩
    · rw [mX11_feed, b_gI, if_pos (lK0 L), t, if_neg c1]
    · have R2 := R.th 0
      show mX16_feed g m v1 v2 v3 v4 v5 = _
      rw [mX16_feed, b_pI, if_pos (qK0 R.1.1), b_gI, if_pos (qK0 R2.1.1), R2.2.1.1, if_neg c2]

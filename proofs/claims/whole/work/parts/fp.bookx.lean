/-! book: both sides -/
theorem q_l108 {m : Nat} (E : MHp → Option (Int32 × MHp)) (he : ∀ (fu : Nat) (X : MHp), QL m X → mX16_book_l108 (fu + 1) X m (Int32.ofNat 60) = E X) : ∀ (q i fu : Nat) (h : MHp), i + q = 60 → q < fu → QL m h → ∃ G : Nat → Int32, mX16_book_l108 fu h m (Int32.ofNat i) = E (sAI h (m + 18) G) ∧ ∀ j : Nat, G j = if i ≤ j ∧ j < 60 then 0 else hAI h (m + 18) j := by
  intro q
  induction q with
  | zero =>
    intro i fu h hi hf L
    obtain ⟨fu, rfl⟩ : ∃ g : Nat, fu = g + 1 := ⟨fu - 1, by omega⟩
    refine ⟨hAI h (m + 18), ?_, fun j => by rw [if_neg (by omega)]⟩
    rw [show i = 60 by omega, he fu h L, e_AIself]
  | succ q ih =>
    intro i fu h hi hf L
    obtain ⟨fu, rfl⟩ : ∃ g : Nat, fu = g + 1 := ⟨fu - 1, by omega⟩
    obtain ⟨X, hX⟩ : ∃ X : MHp, X = sAI h (m + 18) (va_up (hAI h (m + 18)) i 0) := ⟨_, rfl⟩
    have LX : QL m X := by rw [hX]; exact L
    obtain ⟨G, e, s⟩ := ih (i + 1) fu X (by omega) (by omega) LX
    refine ⟨G, ?_, fun j => ?_⟩
    · have n60 : ¬ (60 : Int32) ≤ Int32.ofNat i := by rw [show (60 : Int32) = Int32.ofNat 60 from rfl, le_of (by omega) (by omega)]; omega
      rw [mX16_book_l108, if_neg n60, b_gR, if_pos (qK0 L), qR36 L, b_pAI, if_pos (qK18 L), qN18 L, if_neg (bad_n (by omega) (by omega)), cl_of (by omega), s1_of, ← hX, e, hX, e_AI2]
    · rw [s, hX, e_sAI, if_pos rfl, e_up]
      by_cases a : i + 1 ≤ j ∧ j < 60
      · rw [if_pos a, if_pos (by omega)]
      · rw [if_neg a]
        by_cases b : j = i
        · rw [if_pos b, if_pos (by omega)]
        · rw [if_neg b, if_neg (by omega)]
theorem q_l87 {m : Nat} : ∀ (q i fu : Nat) (h : MHp), i + q = 10 → q < fu → QL m h → ∃ G : Nat → Int32, mX16_book_l87 fu h m (Int32.ofNat i) = mX16_book_l108 FUEL (sAI h (m + 17) G) m (Int32.ofNat 0) := by
  intro q
  induction q with
  | zero =>
    intro i fu h hi hf L
    obtain ⟨fu, rfl⟩ : ∃ g : Nat, fu = g + 1 := ⟨fu - 1, by omega⟩
    refine ⟨hAI h (m + 17), ?_⟩
    rw [show i = 10 by omega, e_AIself, mX16_book_l87, if_pos (by decide)]
    rfl
  | succ q ih =>
    intro i fu h hi hf L
    obtain ⟨fu, rfl⟩ : ∃ g : Nat, fu = g + 1 := ⟨fu - 1, by omega⟩
    obtain ⟨X, hX⟩ : ∃ X : MHp, X = sAI h (m + 17) (va_up (hAI h (m + 17)) i 0) := ⟨_, rfl⟩
    have LX : QL m X := by rw [hX]; exact L
    obtain ⟨G, e⟩ := ih (i + 1) fu X (by omega) (by omega) LX
    refine ⟨G, ?_⟩
    have n10' : ¬ (10 : Int32) ≤ Int32.ofNat i := by rw [show (10 : Int32) = Int32.ofNat 10 from rfl, le_of (by omega) (by omega)]; omega
    rw [mX16_book_l87, if_neg n10', b_gR, if_pos (qK0 L), qR35 L, b_pAI, if_pos (qK17 L), qN17 L, if_neg (bad_n (by omega) (by omega)), cl_of (by omega), s1_of, ← hX, e, hX, e_AI2]
/-- the reference's heap behind a book that was read -/
def bqA (m b : Nat) (h : MHp) : MHp := sI (sI (sI (sI (sR h m 4 (some b)) m 18 0) m 7 0) m 19 0) m 34 (-1)
def bqC (m : Nat) (h : MHp) : MHp := sI (sI (sI (sI (sI h m 49 0) m 40 0) m 37 3) m 38 3) m 39 10
def bqZ (m b : Nat) (G G2 : Nat → Int32) (h : MHp) : MHp := rtb m (bqC m (sAI (sAI (bqA m b h) (m + 17) G) (m + 18) G2)) 0
def OI (m : Nat) (h h' : MHp) : Prop := hK h' = hK h ∧ hN h' = hN h ∧ hL h' = hL h ∧ hR h' = hR h ∧ hAI h' = hAI h ∧ hAL h' = hAL h ∧ hAR h' = hAR h ∧ hS h' = hS h ∧ ∀ a : Nat, a ≠ m → hI h' a = hI h a
theorem OI.tr {m : Nat} {h h1 h2 : MHp} (A : OI m h h1) (B : OI m h1 h2) : OI m h h2 := by
  obtain ⟨a1, a2, a3, a4, a5, a6, a7, a8, a9⟩ := A
  obtain ⟨b1, b2, b3, b4, b5, b6, b7, b8, b9⟩ := B
  exact ⟨b1.trans a1, b2.trans a2, b3.trans a3, b4.trans a4, b5.trans a5, b6.trans a6, b7.trans a7, b8.trans a8, fun a ha => (b9 a ha).trans (a9 a ha)⟩
theorem OI.I {m : Nat} {h : MHp} (j : Nat) (v : Int32) : OI m h (sI h m j v) := ⟨rfl, rfl, rfl, rfl, rfl, rfl, rfl, rfl, fun a ha => up2_ne _ _ _ ha⟩
theorem bqA_oi (m b : Nat) (h : MHp) : OI m (sR h m 4 (some b)) (bqA m b h) := (((OI.I 18 _).tr (OI.I 7 _)).tr (OI.I 19 _)).tr (OI.I 34 _)
theorem bqC_oi (m : Nat) (h : MHp) : OI m h (bqC m h) := ((((OI.I 49 _).tr (OI.I 40 _)).tr (OI.I 37 _)).tr (OI.I 38 _)).tr (OI.I 39 _)
theorem rtb_oi (m : Nat) (h : MHp) (t : Int32) : OI m h (rtb m h t) := (OI.I 1 _).tr (OI.I 2 _)
theorem bqZ_oi (m b : Nat) (G G2 : Nat → Int32) (h : MHp) : OI m (sAI (sAI (bqA m b h) (m + 17) G) (m + 18) G2) (bqZ m b G G2 h) := (bqC_oi _ _).tr (rtb_oi _ _ _)
theorem bqZ_I (m b : Nat) (G G2 : Nat → Int32) (h : MHp) (j : Nat) : hI (bqZ m b G G2 h) m j = if j = 2 then -1 else if j = 1 then 0 else if j = 39 then 10 else if j = 38 then 3 else if j = 37 then 3 else if j = 40 then 0 else if j = 49 then 0 else if j = 34 then -1 else if j = 19 then 0 else if j = 7 then 0 else if j = 18 then 0 else hI h m j := by
  have e : ∀ (X : MHp) (k : Nat) (v : Int32), hI (sI X m k v) m j = if j = k then v else hI X m j := fun X k v => by
    rw [e_sI]
    by_cases a : j = k
    · rw [if_pos ⟨rfl, a⟩, if_pos a]
    · rw [if_neg (fun e => a e.2), if_neg a]
  unfold bqZ rtb bqC
  rw [e, e, e, e, e, e, e, e_I_sAI, e_I_sAI]
  unfold bqA
  rw [e, e, e, e, e_I_sR]
theorem bqZ_S (m b : Nat) (G G2 : Nat → Int32) (h : MHp) : hS (bqZ m b G G2 h) = hS h := by
  rw [(bqZ_oi m b G G2 h).2.2.2.2.2.2.2.1, e_S_sAI, e_S_sAI, (bqA_oi m b h).2.2.2.2.2.2.2.1, e_S_sR]
theorem bqZ_AI (m b : Nat) (G G2 : Nat → Int32) (h : MHp) (a : Nat) : hAI (bqZ m b G G2 h) a = if a = m + 18 then G2 else if a = m + 17 then G else hAI h a := by
  rw [(bqZ_oi m b G G2 h).2.2.2.2.1, e_sAI, e_sAI, (bqA_oi m b h).2.2.2.2.1, e_AI_sR]
theorem bqZ_R (m b : Nat) (G G2 : Nat → Int32) (h : MHp) (a j : Nat) : hR (bqZ m b G G2 h) a j = if a = m ∧ j = 4 then some b else hR h a j := by
  rw [(bqZ_oi m b G G2 h).2.2.2.1, e_R_sAI, e_R_sAI, (bqA_oi m b h).2.2.2.1, e_sR]
theorem bqZ_ag {m b : Nat} {G G2 : Nat → Int32} {h : MHp} {p q : Nat} (d : ∀ a : Nat, p ≤ a → a < q → a ≠ m ∧ a ≠ m + 17 ∧ a ≠ m + 18) : Ag p q h (bqZ m b G G2 h) := by
  intro a x y
  obtain ⟨d1, d2, d3⟩ := d a x y
  obtain ⟨u1, u2, u3, u4, u5, u6, u7, u8, u9⟩ := bqZ_oi m b G G2 h
  obtain ⟨v1, v2, v3, v4, v5, v6, v7, v8, v9⟩ := bqA_oi m b h
  refine ⟨?_, ?_, ?_, ?_, ?_, ?_, ?_, ?_⟩
  · rw [u1, e_K_sAI, e_K_sAI, v1, e_K_sR]
  · rw [u2, e_N_sAI, e_N_sAI, v2, e_N_sR]
  · rw [u9 a d1, e_I_sAI, e_I_sAI, v9 a d1, e_I_sR]
  · rw [u3, e_L_sAI, e_L_sAI, v3, e_L_sR]
  · funext j
    rw [bqZ_R, if_neg (fun e => d1 e.1)]
  · rw [bqZ_AI, if_neg d3, if_neg d2]
  · rw [u6, e_AL_sAI, e_AL_sAI, v6, e_AL_sR]
  · rw [u7, e_AR_sAI, e_AR_sAI, v7, e_AR_sR]
theorem bqZ_ql {m b : Nat} {G G2 : Nat → Int32} {h : MHp} (L : QL m h) : QL m (bqZ m b G G2 h) := by
  obtain ⟨l1, l2⟩ := L
  obtain ⟨u1, u2, u3, u4, u5, u6, u7, u8, u9⟩ := bqZ_oi m b G G2 h
  obtain ⟨v1, v2, v3, v4, v5, v6, v7, v8, v9⟩ := bqA_oi m b h
  have b2 : ∀ x : Nat × Nat × Nat, x ∈ rlR → ¬ (x.1 = 0 ∧ x.2.1 = 4) := by decide +kernel
  refine ⟨?_, fun x hx => ?_⟩
  · rw [u1, e_K_sAI, e_K_sAI, v1, e_K_sR, u2, e_N_sAI, e_N_sAI, v2, e_N_sR]
    exact l1
  · have := b2 x hx
    rw [bqZ_R, if_neg (by omega)]
    exact l2 x hx
theorem bqA_ql {m b : Nat} {h : MHp} (L : QL m h) : QL m (bqA m b h) := by
  obtain ⟨l1, l2⟩ := L
  obtain ⟨v1, v2, v3, v4, v5, v6, v7, v8, v9⟩ := bqA_oi m b h
  have b2 : ∀ x : Nat × Nat × Nat, x ∈ rlR → ¬ (x.1 = 0 ∧ x.2.1 = 4) := by decide +kernel
  refine ⟨?_, fun x hx => ?_⟩
  · rw [v1, e_K_sR, v2, e_N_sR]
    exact l1
  · have := b2 x hx
    rw [v4, e_sR, if_neg (by omega)]
    exact l2 x hx
/-- how a book's reading ends -/
def bqE (m : Nat) (X : MHp) : Option (Int32 × MHp) := (gI 13 0 (bqC m X) (hR X m 4)).bind fun x9 => some (x9, rtb m (bqC m X) 0)
theorem q_bqE {m : Nat} (fu : Nat) (X : MHp) (L : QL m X) : mX16_book_l108 (fu + 1) X m (Int32.ofNat 60) = bqE m X := by
  have KX := qK0 L
  obtain ⟨C, eC⟩ : ∃ C : MHp, C = bqC m X := ⟨_, rfl⟩
  have oi := bqC_oi m X
  rw [← eC] at oi
  have LC : QL m C := by
    obtain ⟨l1, l2⟩ := L
    exact ⟨by rw [oi.1, oi.2.1]; exact l1, by rw [oi.2.2.2.1]; exact l2⟩
  have qd := fun v => q_done LC v
  have eC' : C = sI (sI (sI (sI (sI X m 49 0) m 40 0) m 37 3) m 38 3) m 39 10 := eC
  have n60 : (60 : Int32) ≤ Int32.ofNat 60 := by decide
  rw [mX16_book_l108, if_pos n60, b_pI, if_pos KX, b_pI, if_pos (by exact KX), b_pI, if_pos (by exact KX), b_pI, if_pos (by exact KX), b_pI, if_pos (by exact KX), ← eC', b_gR, if_pos (qK0 LC), oi.2.2.2.1]
  unfold bqE
  rw [← eC]
  refine congrArg _ (funext fun x9 => ?_)
  rw [b_rcv, if_pos (qK0 LC), qd, o_bind]
theorem q_bookEnd {m b : Nat} {h : MHp} (L : QL m h) (r5 : hR h m 5 = some b) (kb : hK h b = 13) (hb : b ≠ m) : ∃ G G2 : Nat → Int32, ((gR 17 5 h (some m)).bind fun x32 => (pR 17 4 h (some m) x32).bind fun h33 => (pI 17 18 h33 (some m) 0).bind fun h34 => (pI 17 7 h34 (some m) 0).bind fun h35 => (pI 17 19 h35 (some m) 0).bind fun h36 => (pI 17 34 h36 (some m) (-1)).bind fun h37 => mX16_book_l87 FUEL h37 m 0) = some (hI h b 0, bqZ m b G G2 h) ∧ ∀ j : Nat, G2 j = if 0 ≤ j ∧ j < 60 then 0 else hAI h (m + 18) j := by
  obtain ⟨Z, eZ⟩ : ∃ Z : MHp, Z = bqA m b h := ⟨_, rfl⟩
  have eZ' : Z = sI (sI (sI (sI (sR h m 4 (some b)) m 18 0) m 7 0) m 19 0) m 34 (-1) := eZ
  have LZ : QL m Z := by rw [eZ]; exact bqA_ql L
  have oi := bqA_oi m b h
  rw [← eZ] at oi
  have KZ : hK (sR h m 4 (some b)) m = 17 := (show hK h m = 17 from qK0 L)
  obtain ⟨G, g1⟩ := q_l87 (m := m) 10 0 FUEL Z rfl (by unfold FUEL; omega) LZ
  obtain ⟨Z1, eZ1⟩ : ∃ X : MHp, X = sAI Z (m + 17) G := ⟨_, rfl⟩
  rw [← eZ1] at g1
  have LZ1 : QL m Z1 := by rw [eZ1]; exact LZ
  obtain ⟨G2, g2, g3⟩ := q_l108 (bqE m) q_bqE 60 0 FUEL Z1 rfl (by unfold FUEL; omega) LZ1
  rw [o0] at g1 g2
  refine ⟨G, G2, ?_, fun j => ?_⟩
  · rw [b_gR, if_pos (qK0 L), r5, b_pR, if_pos (qK0 L), b_pI, if_pos KZ, b_pI, if_pos (by exact KZ), b_pI, if_pos (by exact KZ), b_pI, if_pos (by exact KZ), ← eZ', g1, g2]
    obtain ⟨Y, eY⟩ : ∃ Y : MHp, Y = sAI Z1 (m + 18) G2 := ⟨_, rfl⟩
    have oc := bqC_oi m Y
    have rY : hR Y m 4 = some b := by rw [eY, e_R_sAI, eZ1, e_R_sAI, oi.2.2.2.1, e_sR, if_pos ⟨rfl, rfl⟩]
    have kY : hK (bqC m Y) b = 13 := by rw [oc.1, eY, e_K_sAI, eZ1, e_K_sAI, oi.1, e_K_sR]; exact kb
    have iY : hI (bqC m Y) b 0 = hI h b 0 := by rw [oc.2.2.2.2.2.2.2.2 b hb, eY, e_I_sAI, eZ1, e_I_sAI, oi.2.2.2.2.2.2.2.2 b hb, e_I_sR]
    rw [← eY]
    unfold bqE
    rw [rY, b_gI, if_pos kY, iY]
    unfold bqZ
    rw [eY, eZ1, eZ]
  · rw [g3, eZ1, e_sAI, if_neg (show ¬ m + 18 = m + 17 by omega), oi.2.2.2.2.1, e_AI_sR]
/-- the reference shows the state behind a book that was read -/
theorem RR.bk {m b : Nat} {h h' : MHp} {A : AS} {B : Bk} {G G2 : Nat → Int32} (C : RR m h A) (F : QF m h h') (R : RB (m + 26) h' b B) (hB : 0 < bF B) (i10 : hI h' m 10 = 0) (i3 : hI h' m 3 = 0) (g2 : ∀ j : Nat, G2 j = if 0 ≤ j ∧ j < 60 then 0 else hAI h' (m + 18) j) : RR m (bqZ m b G G2 h') (bA A B) := by
  obtain ⟨x0, ⟨y1, y2, y3, y4, y5, y6, y7, y8, y9, y10, y11, y12, y13, y14⟩, ⟨z1, z2, z3, z4, z5, z6, z7, z8, z9⟩, w1, w2, w3⟩ := C
  have d26 := x0.2.1
  have ga : ∀ k : Nat, k < 26 → hAI h' (m + k) = hAI h (m + k) := fun k hk => (F.2.1 (m + k) (by omega)).2.2.2.1
  have L' := F.ql d26 x0.1
  have S := F.1
  have eS : hS (bqZ m b G G2 h') = hS h' := bqZ_S m b G G2 h'
  have bg : Ag (m + 26) (hS h') h' (bqZ m b G G2 h') := bqZ_ag (fun a x y => by omega)
  refine ⟨⟨bqZ_ql L', by rw [eS]; omega, fun e => absurd (show bF B = 0 from e) (by omega), fun _ => ⟨b, by rw [bqZ_R, if_pos ⟨rfl, rfl⟩], R.ag bg (by rw [eS]; exact Nat.le_refl _)⟩⟩, ⟨?_, ?_, ?_, ?_, ?_, ?_, ?_, ?_, ?_, ?_, ?_, ?_, ?_, ?_⟩, ⟨?_, ?_, ?_, ?_, ?_, fun r hr => absurd hr (Nat.not_lt_zero r), ?_, ?_, ?_⟩, ⟨fun e => absurd rfl e, fun k hk => absurd hk (Nat.not_lt_zero k), fun k hk => absurd hk (Nat.not_lt_zero k)⟩⟩
  · rw [bqZ_I]; exact i10
  · rw [bqZ_I]; rfl
  · rw [bqZ_I]; rfl
  · rw [bqZ_I]; rfl
  · rw [bqZ_I]; rfl
  · rw [bqZ_I]; exact i3
  · rw [bqZ_I]; rfl
  · rw [bqZ_I]; rfl
  · rw [bqZ_I]
    exact (F.2.2 32 (by decide)).trans y9
  · rw [bqZ_I]; rfl
  · rw [bqZ_I]; rfl
  · rw [bqZ_I]; rfl
  · rw [bqZ_I]; rfl
  · rw [bqZ_I]; rfl
  · rw [bqZ_AI, if_neg (by omega), if_neg (by omega), ga 3 (by omega)]; exact z1
  · rw [bqZ_AI, if_neg (by omega), if_neg (by omega), ga 4 (by omega)]; exact z2
  · rw [bqZ_AI, if_neg (by omega), if_neg (by omega), ga 5 (by omega)]; exact z3
  · rw [bqZ_AI, if_neg (by omega), if_neg (by omega), ga 6 (by omega)]; exact z4
  · rw [bqZ_AI, if_neg (by omega), if_neg (by omega), ga 7 (by omega)]; exact z5
  · rw [bqZ_AI, if_neg (by omega), if_neg (by omega), ga 10 (by omega)]; exact z7
  · rw [bqZ_AI, if_neg (by omega), if_neg (by omega), ga 12 (by omega)]; exact z8
  · rw [bqZ_AI, if_pos rfl]
    show G2 = fun j => if j < 60 then 0 else aA A 11 j
    funext j
    rw [g2 j, ga 18 (by omega), z9]
    by_cases q : j < 60
    · rw [if_pos q, if_pos ⟨Nat.zero_le _, q⟩]
    · rw [if_neg q, if_neg (fun e => q e.2)]
theorem c_book {c n : Nat} {h : MHp} {A : AS} (C : CR c h A) (W : WA A) (hn : n ≤ aN A 0) : ((bkR (aA A 0) n 19 B0 (tokAt (aA A 0) n 0)).1 ≠ 0 ∧ CS c h (mX11_book h c (Int32.ofNat n)) (-1) (fA A 4 (bkR (aA A 0) n 19 B0 (tokAt (aA A 0) n 0)).1 (Int32.ofNat (kS (bkR (aA A 0) n 19 B0 (tokAt (aA A 0) n 0)).2.1)))) ∨ (bkR (aA A 0) n 19 B0 (tokAt (aA A 0) n 0)).1 = 0 ∧ WBk (bkR (aA A 0) n 19 B0 (tokAt (aA A 0) n 0)).2.2 ∧ CS c h (mX11_book h c (Int32.ofNat n)) (Int32.ofNat (bF (bkR (aA A 0) n 19 B0 (tokAt (aA A 0) n 0)).2.2)) (bA A (bkR (aA A 0) n 19 B0 (tokAt (aA A 0) n 0)).2.2) := by
  have u5 := W.2.1
  have C0 := C
  obtain ⟨⟨b, s, L, hbs, x3, x4, -⟩, y, z, -⟩ := C
  have hs : s = 2 ∨ s = 57 := by omega
  obtain ⟨H1, e1⟩ : ∃ X : MHp, X = sI h c 15 0 := ⟨_, rfl⟩
  obtain ⟨H2, e2⟩ : ∃ X : MHp, X = sI H1 c 13 0 := ⟨_, rfl⟩
  have F2 : CF c (c + s) (c + s + 53) h H2 := by rw [e2, e1]; exact (CF.I0 15 _ (by omega)).tr (CF.I0 13 _ (by omega))
  have L1 : CL c H1 := by rw [e1]; exact L
  have L2 : CL c H2 := F2.cl L
  have g2 : hAI H2 (c + 1) = aA A 0 := by rw [e2, e1]; exact z.2.2.2.2.1
  have i15 : hI H1 c 15 = 0 := by rw [e1, e_Iself]
  have j13 : hI H2 c 13 = 0 := by rw [e2, e_Iself]
  have j15 : hI H2 c 15 = 0 := by rw [e2, e_sI, if_neg (by omega)]; exact i15
  have r12 : hR H2 c 12 = some (c + s) := by rw [e2, e1]; exact x4
  have base : ∀ r : Int32 × MHp, mX8_readBook H2 (c + 55) (Int32.ofNat n) (some (c + s)) = some r → mX11_book h c (Int32.ofNat n) = (if r.1 = 0 then (pI 12 15 r.2 (some c) 4).bind fun h20 => some ((-1), h20) else (gR 12 2 r.2 (some c)).bind fun x8 => (gR 10 5 r.2 x8).bind fun x9 => (gR 12 2 r.2 (some c)).bind fun x10 => (gR 12 12 r.2 (some c)).bind fun x11 => (rcv 10 r.2 x10).bind fun b13 => (mX9_begin r.2 b13 x11).bind fun r12 => (pR 12 12 r12 (some c) x9).bind fun h14 => (rcv 12 h14 (some c)).bind fun b16 => (mX11_beginAnew h14 b16).bind fun r15 => (gR 12 2 r15 (some c)).bind fun x17 => (gR 10 5 r15 x17).bind fun x18 => (gI 2 4 r15 x18).bind fun x19 => some (x19, r15)) := fun r e => by
    rw [mX11_book, b_rcv, if_pos (lK0 L), p_tape1 L y.1 u5 hn, o_bind, if_neg n10, mX11_book_b14, b_pI, if_pos (lK0 L), ← e1, b_gI, if_pos (lK0 L1), i15, if_pos rfl, b_pI, if_pos (lK0 L1), ← e2, b_gR, if_pos (lK0 L2), lR0_1 L2, b_gR, if_pos (lK0 L2), r12, b_rcv, if_pos (lK55 L2), e, o_bind]
  rcases p_readBook (n := n) hs L2 g2 (by omega) with ⟨ne, h3, e3, F3, c3, f3, p3⟩ | ⟨b1, b2, h3, e3, F3, c3, f3, CBB, nm⟩
  · left
    have FF := F2.tr F3
    have L3 : CL c h3 := FF.cl L
    have FE : CF c (c + s) (c + s + 53) h (sI h3 c 15 4) := FF.tr (CF.I0 15 4 (by omega))
    refine ⟨ne, sI h3 c 15 4, ?_, CR.cf W FE C0 (Or.inl ⟨s, hs, x4, rfl, rfl⟩) ?_ (e_Iself _ _ _ _) ?_ (fun _ => ?_), FE.oc (by omega)⟩
    · rw [base _ e3, if_pos rfl, b_pI, if_pos (by exact lK0 L3)]
    · rw [e_sI, if_neg (by omega), c3]; exact j13
    · rw [e_sI, if_neg (by omega)]; exact f3
    · rw [e_sI, if_neg (by omega)]; exact p3
  · right
    have FF := F2.tr F3
    have L3 : CL c h3 := FF.cl L
    have r5 : hR h3 (c + 56) 5 = some (c + b) := by rw [FF.2.2.2.2.1 _ _ (Or.inl (by omega))]; exact x3
    have r12' : hR h3 c 12 = some (c + s) := by rw [FF.2.2.2.2.1 _ _ (Or.inl (by omega))]; exact x4
    obtain ⟨Y, eY⟩ : ∃ Y : MHp, Y = sI (sI (sR h3 (c + 56) 5 (some (c + s))) (c + 56) 6 0) (c + 56) 7 0 := ⟨_, rfl⟩
    obtain ⟨Y2, eY2⟩ : ∃ Y2 : MHp, Y2 = sR Y c 12 (some (c + b)) := ⟨_, rfl⟩
    have KL0 : hK h3 c = 12 := lK0 L3
    have KL56 : hK h3 (c + 56) = 10 := lK56 L3
    have KY : hK Y c = 12 := by rw [eY]; exact KL0
    have R2 : ∀ a j : Nat, hR Y2 a j = if a = c ∧ j = 12 then some (c + b) else if a = c + 56 ∧ j = 5 then some (c + s) else hR h3 a j := fun a j => by rw [eY2, eY]; rfl
    have LY : CL c Y2 := by
      obtain ⟨l1, l2, l3⟩ := L3
      have q2 : ∀ x : Nat × Nat × Nat, x ∈ clR → ¬ (x.1 = 0 ∧ x.2.1 = 12) ∧ ¬ (x.1 = 56 ∧ x.2.1 = 5) := by decide +kernel
      refine ⟨by rw [eY2, eY]; exact l1, fun x hx => ?_, by rw [eY2, eY]; exact l3⟩
      have := q2 x hx
      rw [R2, if_neg (by omega), if_neg (by omega)]
      exact l2 x hx
    have eZ : mX11_beginAnew Y2 c = some (bkZ c b s h3) := by
      rw [p_beginAnew LY, eY2, eY]
      rfl
    have LZ : CL c (bkZ c b s h3) := bkZ_cl L3
    have rZ : hR (bkZ c b s h3) (c + 56) 5 = some (c + s) := by rw [bkZ_R, if_neg (by omega), if_pos ⟨rfl, rfl⟩]
    have iZ : hI (bkZ c b s h3) (c + s) 4 = Int32.ofNat (bF (bkR (aA A 0) n 19 B0 (tokAt (aA A 0) n 0)).2.2) := by
      rw [bkZ_I, if_neg (by omega), if_neg (by omega), if_neg (by omega), if_neg (by omega), if_neg (by omega), if_neg (by omega)]
      exact CBB.1
    have kS3 : hK h3 (c + s) = 2 := (L3.b hs).1
    refine ⟨b1, b2, bkZ c b s h3, ?_, CR.bk hbs rfl C0 FF (by rw [c3]; exact j13) (by rw [c3]; exact j15) f3 CBB b2.1.2.1 nm, (FF.oc (by omega)).tr ⟨rfl, fun p q d => bkZ_ag (fun a x y => by omega)⟩⟩
    rw [base _ e3, if_neg n10, b_gR, if_pos (by exact KL0), lR0_2 L3, b_gR, if_pos (by exact KL56), r5, b_gR, if_pos (by exact KL0), lR0_2 L3, b_gR, if_pos (by exact KL0), r12', b_rcv, if_pos (by exact KL56), mX9_begin, b_pR, if_pos (by exact KL56), b_pI, if_pos (by exact KL56), b_pI, if_pos (by exact KL56), o_bind, ← eY, b_pR, if_pos KY, ← eY2, b_rcv, if_pos (lK0 LY), eZ, o_bind, b_gR, if_pos (lK0 LZ), lR0_2 LZ, b_gR, if_pos (lK56 LZ), rZ, b_gI, if_pos (by exact kS3), iZ]
theorem q_bookNo {m : Nat} {h : MHp} {A : AS} {a : Int32} (R : RR m h A) (W : WA A) (ha : ∀ k : Nat, k < aN A 0 + 1 → a ≠ Int32.ofNat k) : RS m h (mX16_book h m a) (-1) (tb A 2) := by
  have u5 := W.2.1
  have R0 := R.th 0
  have L := R0.1.1
  have e := q_refused L 2
  refine ⟨rtb m (sI h m 0 0) 2, ?_, R0.tb (by decide), (Om.th 0).tr Om.tb⟩
  by_cases h1 : a < 0
  · rw [mX16_book, b_pI, if_pos (qK0 R.1.1), if_pos h1, mX16_book_b17, b_rcv, if_pos (qK0 L), e, o_bind]
  · obtain ⟨k, rfl, hk⟩ := ex_of h1
    have h2 : aN A 0 < k := Nat.lt_of_not_le (fun hh => ha k (by omega) rfl)
    rw [mX16_book, b_pI, if_pos (qK0 R.1.1), if_neg h1, b_gI, if_pos (qK0 L), R0.2.1.1, if_neg (by rw [le_of hk (by omega)]; omega), mX16_book_b17, b_rcv, if_pos (qK0 L), e, o_bind]
theorem q_bookx {m n : Nat} {h : MHp} {A : AS} (R : RR m h A) (W : WA A) (hn : n ≤ aN A 0) : ((bkR (aA A 0) n 19 B0 (tokAt (aA A 0) n 0)).1 ≠ 0 → RS m h (mX16_book h m (Int32.ofNat n)) (-1) (fA A 4 (bkR (aA A 0) n 19 B0 (tokAt (aA A 0) n 0)).1 (Int32.ofNat (kS (bkR (aA A 0) n 19 B0 (tokAt (aA A 0) n 0)).2.1)))) ∧ ((bkR (aA A 0) n 19 B0 (tokAt (aA A 0) n 0)).1 = 0 → RS m h (mX16_book h m (Int32.ofNat n)) (Int32.ofNat (bF (bkR (aA A 0) n 19 B0 (tokAt (aA A 0) n 0)).2.2)) (bA A (bkR (aA A 0) n 19 B0 (tokAt (aA A 0) n 0)).2.2)) := by
  have u5 := W.2.1
  obtain ⟨hb, -, -⟩ : WZ (aA A 0) (aB A) := W.2.2.2.2.2.2.2.2.2.2.2.2.2.2.2.2.2.2.2
  have d26 := R.1.2.1
  have L := R.1.1
  obtain ⟨Y0, e0⟩ : ∃ X : MHp, X = sI h m 0 0 := ⟨_, rfl⟩
  obtain ⟨Y1, e1⟩ : ∃ X : MHp, X = sI (sI (sI (sI Y0 m 11 (Int32.ofNat n)) m 10 0) m 12 0) m 3 0 := ⟨_, rfl⟩
  obtain ⟨N, eN⟩ : ∃ X : MHp, X = nwB Y1 := ⟨_, rfl⟩
  have nag : Ag 0 (hS Y1) Y1 N := by rw [eN]; exact nwB_ag
  have nS : hS N = hS Y1 + 5 := by rw [eN, nwB_S]
  have rb := nwB_rb Y1
  rw [← eN] at rb
  obtain ⟨Y3, e3⟩ : ∃ X : MHp, X = sR N m 5 (some (hS Y1)) := ⟨_, rfl⟩
  have Q0 : QF m h Y0 := by rw [e0]; exact QF.I 0 _ (by decide)
  have Q1 : QF m h Y1 := by rw [e1]; exact (((Q0.tr (QF.I 11 _ (by decide))).tr (QF.I 10 _ (by decide))).tr (QF.I 12 _ (by decide))).tr (QF.I 3 _ (by decide))
  have S1 : hS Y1 = hS h := by rw [e1, e0]; rfl
  have Qn : QF m Y1 N := QF.new nag (by omega) (by omega)
  have Q3 : QF m h Y3 := by rw [e3]; exact (Q1.tr Qn).tr (QF.R5 _)
  have L0 : QL m Y0 := Q0.ql d26 L
  have L1 : QL m Y1 := Q1.ql d26 L
  have Ln : QL m N := (Q1.tr Qn).ql d26 L
  have L3 : QL m Y3 := Q3.ql d26 L
  have mag := (nag m (Nat.zero_le _) (by omega)).2.2.1
  have I3 : ∀ j : Nat, hI Y3 m j = hI Y1 m j := fun j => by
    rw [e3]
    show hI N m j = hI Y1 m j
    rw [mag]
  have i11 : hI Y3 m 11 = Int32.ofNat n := by rw [I3, e1, e_sI, if_neg (by omega), e_sI, if_neg (by omega), e_sI, if_neg (by omega), e_Iself]
  have i12 : hI Y3 m 12 = Int32.ofNat 0 := by rw [I3, e1, e_sI, if_neg (by omega), e_Iself]; rfl
  have i10 : hI Y3 m 10 = 0 := by rw [I3, e1, e_sI, if_neg (by omega), e_sI, if_neg (by omega), e_Iself]
  have i3 : hI Y3 m 3 = 0 := by rw [I3, e1, e_Iself]
  have g3 : hAI Y3 (m + 3) = aA A 0 := by rw [(Q3.2.1 (m + 3) (by omega)).2.2.2.1]; exact R.2.2.1.1
  obtain ⟨Y4, e4, S4, P4⟩ := q_next hb ⟨L3, g3, i11, by omega⟩ i12 (Nat.zero_le n)
  have Q4 : QF m h Y4 := Q3.tr (QF.sn S4)
  have L4 : QL m Y4 := Q4.ql d26 L
  have sY3 : hS Y3 = hS Y1 + 5 := by rw [e3, e_S_sR]; exact nS
  have sY4 : hS Y4 = hS Y1 + 5 := by rw [S4.2.2.2.2.2.2.1]; exact sY3
  have I4 : ∀ a : Nat, a ≠ m → hI Y4 a = hI N a := fun a ha => by
    rw [(S4.2.2.2.2.2.2.2.1 a ha).1, e3, e_I_sR]
  have rib : RIB Y4 (hS Y1) := by
    have r3 : ∀ j : Nat, hR Y4 (hS Y1) j = hR N (hS Y1) j := fun j => by
      rw [S4.2.2.1, e3, e_sR, if_neg (by omega)]
    unfold RIB
    rw [r3, r3, r3, r3, S4.1, S4.2.1, e3, e_K_sR, e_N_sR]
    exact rb.1
  have QB : Qb m (hS Y1) (aA A 0) n B0 (tokAt (aA A 0) n 0) Y4 := by
    refine ⟨P4, ?_, rib, ?_, ?_, fun f hf => absurd hf (Nat.not_lt_zero f), ⟨by omega, by omega⟩, fun k hk => absurd hk (Nat.not_lt_zero k)⟩
    · rw [S4.2.2.1, e3, e_sR, if_pos ⟨rfl, rfl⟩]
    · rw [I4 _ (by omega)]; exact rb.2.1
    · rw [I4 _ (by omega)]; exact rb.2.2
  have ti : hI Y0 m 10 = Int32.ofNat (aN A 0) := by rw [e0, e_sI, if_neg (by omega)]; exact R.2.1.1
  have lek : Int32.ofNat n ≤ Int32.ofNat (aN A 0) := by rw [le_of (by omega) (by omega)]; exact hn
  have pre1 : ∀ (q : Nat) (h2 : MHp), mX16_readBook Y4 m = some (Sum.inr q, h2) → mX16_book h m (Int32.ofNat n) = (rcv 17 h2 (some m)).bind fun b40 => (mX16_wrong h2 b40 (some q)).bind fun r39 => some (r39.1, r39.2) := fun q h2 e => by
    rw [mX16_book, b_pI, if_pos (qK0 L), ← e0, if_neg (nlt0 (by omega)), b_gI, if_pos (qK0 L0), ti, if_pos lek, b_rcv, if_pos (qK0 L0), q_begins L0, o_bind, ← e1, nwB_e, ← eN, b_pR, if_pos (qK0 Ln), ← e3, b_rcv, if_pos (qK0 L3), e4, o_bind, b_rcv, if_pos (qK0 L4), e, o_bind]
  have pre2 : ∀ h2 : MHp, mX16_readBook Y4 m = some (Sum.inl (), h2) → mX16_book h m (Int32.ofNat n) = (gR 17 5 h2 (some m)).bind fun x32 => (pR 17 4 h2 (some m) x32).bind fun h33 => (pI 17 18 h33 (some m) 0).bind fun h34 => (pI 17 7 h34 (some m) 0).bind fun h35 => (pI 17 19 h35 (some m) 0).bind fun h36 => (pI 17 34 h36 (some m) (-1)).bind fun h37 => mX16_book_l87 FUEL h37 m 0 := fun h2 e => by
    rw [mX16_book, b_pI, if_pos (qK0 L), ← e0, if_neg (nlt0 (by omega)), b_gI, if_pos (qK0 L0), ti, if_pos lek, b_rcv, if_pos (qK0 L0), q_begins L0, o_bind, ← e1, nwB_e, ← eN, b_pR, if_pos (qK0 Ln), ← e3, b_rcv, if_pos (qK0 L3), e4, o_bind, b_rcv, if_pos (qK0 L4), e, o_bind]
  have j10 : ∀ h2 : MHp, FR m (hS Y1) Y4 h2 → hI h2 m 10 = 0 ∧ hI h2 m 3 = 0 := fun h2 F => by
    rw [F.2.2 10 (by omega), F.2.2 3 (by omega), S4.2.2.2.2.2.2.2.2 10 (by omega), S4.2.2.2.2.2.2.2.2 3 (by omega)]
    exact ⟨i10, i3⟩
  obtain ⟨r1, r2⟩ := q_book hb (show bF B0 + bN B0 = 0 from rfl) B0_W (GT_0 _ _) QB
  refine ⟨fun hh => ?_, fun hh => ?_⟩
  · obtain ⟨h2, ee, F2, f2, p2⟩ := r1 hh
    have Q5 : QF m h h2 := Q4.fr F2 (by omega)
    have L5 := Q5.ql d26 L
    have RW := RR.wrong Q5 R (j10 h2 F2).1
    have ew := q_wrong L5
    rw [f2, p2] at RW ew
    refine ⟨_, ?_, RW, (((Q5.tr (QF.I 3 _ (by decide))).tr (QF.I 1 _ (by decide))).tr (QF.I 2 _ (by decide))).om (by omega)⟩
    rw [pre1 _ _ ee, b_rcv, if_pos (qK0 L5), ew, o_bind]
  · obtain ⟨h2, ee, F2, Q2⟩ := r2 hh
    have Q5 : QF m h h2 := Q4.fr F2 (by omega)
    have L5 := Q5.ql d26 L
    have RBk := Q2.2.2
    have hB := bk_F 19 B0 _ (Or.inr (by omega)) hh
    obtain ⟨G, G2, g1, g2⟩ := q_bookEnd L5 Q2.2.1 RBk.1.1 (by omega)
    rw [RBk.2.1] at g1
    refine ⟨bqZ m (hS Y1) G G2 h2, ?_, RR.bk R Q5 RBk hB (j10 h2 F2).1 (j10 h2 F2).2 g2, (Q5.om (by omega)).tr ⟨by rw [bqZ_S]; exact Nat.le_refl _, bqZ_ag (fun a x y => by omega)⟩⟩
    rw [pre2 _ ee, g1]
theorem x_book {c m : Nat} {h : MHp} {A : AS} (C : CR c h A) (W : WA A) (a : Int32) : XS c m h A (mX11_book h c a) (fun h1 => mX16_book h1 m a) := by
  rcases rng a (aN A 0 + 1) with ⟨n, hn, rfl⟩ | hno
  · have hn' : n ≤ aN A 0 := by omega
    rcases c_book C W hn' with ⟨ne, D⟩ | ⟨e, WB, D⟩
    · exact ⟨_, _, W.fA _ _ _, D, fun h1 R => (q_bookx R W hn').1 ne⟩
    · exact ⟨_, _, W.bA WB (bk_F 19 B0 _ (Or.inr (by omega)) e), D, fun h1 R => (q_bookx R W hn').2 e⟩
  · obtain ⟨⟨b, s, L, -⟩, y, -⟩ := id C
    refine ⟨-1, tb A 2, W, ⟨sI h c 15 2, ?_, C.tb (by decide), Oc.I0 15 2⟩, fun h1 R => q_bookNo R W hno⟩
    rw [mX11_book, b_rcv, if_pos (lK0 L), p_tape0 L y.1 W.2.1 hno, o_bind, if_pos rfl, mX11_book_b14, b_pI, if_pos (lK0 L), b_gI, if_pos (by exact lK0 L), e_Iself, if_neg n20]

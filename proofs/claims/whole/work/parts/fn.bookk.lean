/-! book: the class's -/
theorem p_readBook {c s n : Nat} {g : Nat → Int32} {h : MHp} (hs : s = 2 ∨ s = 57) (L : CL c h) (hg : hAI h (c + 1) = g) (hn : n ≤ 500) : ((bkR g n 19 B0 (tokAt g n 0)).1 ≠ 0 ∧ ∃ h' : MHp, mX8_readBook h (c + 55) (Int32.ofNat n) (some (c + s)) = some (0, h') ∧ CF c (c + s) (c + s + 53) h h' ∧ hI h' c = hI h c ∧ hI h' (c + 55) 1 = (bkR g n 19 B0 (tokAt g n 0)).1 ∧ hI h' (c + 55) 2 = Int32.ofNat (kS (bkR g n 19 B0 (tokAt g n 0)).2.1)) ∨ (bkR g n 19 B0 (tokAt g n 0)).1 = 0 ∧ WBk (bkR g n 19 B0 (tokAt g n 0)).2.2 ∧ ∃ h' : MHp, mX8_readBook h (c + 55) (Int32.ofNat n) (some (c + s)) = some (1, h') ∧ CF c (c + s) (c + s + 53) h h' ∧ hI h' c = hI h c ∧ hI h' (c + 55) 1 = 0 ∧ CB h' (c + s) (bkR g n 19 B0 (tokAt g n 0)).2.2 ∧ ∀ f : Nat, f < bF (bkR g n 19 B0 (tokAt g n 0)).2.2 → hAL h' (c + s + 1) f = cwd (bM (bkR g n 19 B0 (tokAt g n 0)).2.2 f) := by
  obtain ⟨X, hX⟩ : ∃ X : MHp, X = sI (sI (sI h (c + s) 4 0) (c + s) 5 0) (c + s) 6 1 := ⟨_, rfl⟩
  have I := L.b hs
  have FX : CF c (c + s) (c + s + 53) h X := by rw [hX]; exact ((CF.I _ 4 _ (by omega)).tr (CF.I _ 5 _ (by omega))).tr (CF.I _ 6 _ (by omega))
  have LX : CL c X := FX.cl L
  have gX : hAI X (c + 1) = g := by rw [hX]; exact hg
  have cX : hI X c = hI h c := by
    funext j
    rw [hX, e_sI, if_neg (by omega), e_sI, if_neg (by omega), e_sI, if_neg (by omega)]
  obtain ⟨h1, e1, P1, r8, i1, F1, c1⟩ := p_begin LX gX hn (c + s)
  have L1 : CL c h1 := F1.cl LX
  have iB : ∀ j : Nat, hI h1 (c + s) j = hI X (c + s) j := fun j => F1.2.2.2.2.2.2 (c + s) j (by omega) (Or.inr (Nat.zero_le _)) (fun e => by omega)
  have K : Kb c (c + s) g n B0 (tokAt g n 0) h1 := by
    refine ⟨P1, ⟨r8, L1.b hs, ?_, fun f hf => absurd hf (Nat.not_lt_zero f)⟩, ⟨?_, ?_, fun f hf => absurd hf (Nat.not_lt_zero f), fun k hk => absurd hk (Nat.not_lt_zero k)⟩, ?_⟩
    · rw [iB, hX, e_sI, if_neg (by omega), e_sI, if_neg (by omega), e_Iself]; rfl
    · rw [iB, hX, e_sI, if_neg (by omega), e_sI, if_neg (by omega), e_Iself]; rfl
    · rw [iB, hX, e_sI, if_neg (by omega), e_Iself]; rfl
    · rw [iB, hX, e_Iself]; rfl
  have base : mX8_readBook h (c + 55) (Int32.ofNat n) (some (c + s)) = mX8_readBook_l12 FUEL h1 (c + 55) 0 := by
    rw [mX8_readBook, b_rcv, if_pos I.1, mX1_clear, b_pI, if_pos I.1, b_pI, if_pos (by exact I.1), b_pI, if_pos (by exact I.1), o_bind, ← hX, b_rcv, if_pos (by exact lK55 LX), e1, o_bind]
  rw [base]
  rcases p_lines (hbo := by omega) 19 B0 (tokAt g n 0) h1 FUEL 0 rfl (by omega) (by unfold FUEL; omega) (by omega) B0_W (GT_0 g n) K with ⟨b1, h2, e2, F2, f2, x2⟩ | ⟨b1, b2, h2, e2, F2, f2, K2⟩
  · left
    rw [o0] at e2
    refine ⟨b1, h2, e2, (FX.tr F1.wd).tr (CF.fb F2), ?_, f2, x2⟩
    rw [(F2.2.2.2.2.2.1 c (by omega) (by omega)).1, c1, cX]
  · right
    rw [o0] at e2
    refine ⟨b1, b2, h2, e2, (FX.tr F1.wd).tr (CF.fb F2), ?_, by rw [f2]; exact i1, K2.2.2.1, K2.2.1.2.2.2⟩
    rw [(F2.2.2.2.2.2.1 c (by omega) (by omega)).1, c1, cX]
/-- the state behind a book that was read -/
def bA (A : AS) (B : Bk) : AS := mkA (fun _ => 0) (fun i => if i = 4 then aS A 4 else if i = 5 then -1 else if i = 6 then 3 else if i = 7 then 3 else if i = 8 then 10 else 0) (fun i => if i = 11 then (fun j => if j < 60 then 0 else aA A 11 j) else aA A i) B (aP A) (aT A)
theorem WA.bA {A : AS} {B : Bk} (W : WA A) (WB : WBk B) (hB : 0 < bF B) : WA (bA A B) := by
  refine ⟨WB.1, Nat.zero_le _, Nat.zero_le _, Nat.zero_le _, Nat.zero_le _, fun k hk => absurd hk (Nat.not_lt_zero k), fun e => absurd (show bF B = 0 from e) (by omega), (show (0 : Int32) ≤ 0 by decide), (show (0 : Int32) ≤ 999 by decide), fun r hr => absurd hr (Nat.not_lt_zero r), Or.inl rfl, (show (1 : Int32) ≤ 3 by decide), (show (3 : Int32) ≤ 20 by decide), (show (1 : Int32) ≤ 3 by decide), (show (3 : Int32) ≤ 50 by decide), (show (1 : Int32) ≤ 10 by decide), (show (10 : Int32) ≤ 99 by decide), (show (0 : Int32) ≤ 0 by decide), (show (0 : Int32) ≤ 1000 by decide), ?_, WB.2.1, WB.2.2⟩
  have z := W.2.2.2.2.2.2.2.2.2.2.2.2.2.2.2.2.2.2.2.1
  exact z
/-- the class's heap behind a book that was read -/
def bkZ (c b s : Nat) (h : MHp) : MHp := sI (sI (sAI (sI (sAI (sI (sR (sI (sI (sR h (c + 56) 5 (some (c + s))) (c + 56) 6 0) (c + 56) 7 0) c 12 (some (c + b))) c 14 0) (c + 184) (va_cpy (stV 0) (hAI h (c + 184)) 0 0 4)) (c + 194) 1 (-1)) (c + 199) (fun j => if j < 60 then 0 else hAI h (c + 199) j)) (c + 206) 2 0) (c + 206) 0 0
theorem bkZ_I (c b s : Nat) (h : MHp) (a j : Nat) : hI (bkZ c b s h) a j = if a = c + 206 ∧ j = 0 then 0 else if a = c + 206 ∧ j = 2 then 0 else if a = c + 194 ∧ j = 1 then -1 else if a = c ∧ j = 14 then 0 else if a = c + 56 ∧ j = 7 then 0 else if a = c + 56 ∧ j = 6 then 0 else hI h a j := (rfl)
theorem bkZ_AI (c b s : Nat) (h : MHp) (a : Nat) : hAI (bkZ c b s h) a = if a = c + 199 then (fun j => if j < 60 then 0 else hAI h (c + 199) j) else if a = c + 184 then va_cpy (stV 0) (hAI h (c + 184)) 0 0 4 else hAI h a := (rfl)
theorem bkZ_R (c b s : Nat) (h : MHp) (a j : Nat) : hR (bkZ c b s h) a j = if a = c ∧ j = 12 then some (c + b) else if a = c + 56 ∧ j = 5 then some (c + s) else hR h a j := (rfl)
theorem bkZ_cl {c b s : Nat} {h : MHp} (L : CL c h) : CL c (bkZ c b s h) := by
  obtain ⟨l1, l2, l3⟩ := L
  have b2 : ∀ x : Nat × Nat × Nat, x ∈ clR → ¬ (x.1 = 0 ∧ x.2.1 = 12) ∧ ¬ (x.1 = 56 ∧ x.2.1 = 5) := by decide +kernel
  refine ⟨l1, fun x hx => ?_, l3⟩
  have := b2 x hx
  rw [bkZ_R, if_neg (by omega), if_neg (by omega)]
  exact l2 x hx
theorem bkZ_ag {c b s : Nat} {h : MHp} {p q : Nat} (d : ∀ a : Nat, p ≤ a → a < q → a ≠ c ∧ a ≠ c + 56 ∧ a ≠ c + 184 ∧ a ≠ c + 194 ∧ a ≠ c + 199 ∧ a ≠ c + 206) : Ag p q h (bkZ c b s h) := by
  intro a x y
  have := d a x y
  refine ⟨rfl, rfl, ?_, rfl, ?_, ?_, rfl, rfl⟩
  · funext j
    rw [bkZ_I, if_neg (by omega), if_neg (by omega), if_neg (by omega), if_neg (by omega), if_neg (by omega), if_neg (by omega)]
  · funext j
    rw [bkZ_R, if_neg (by omega), if_neg (by omega)]
  · rw [bkZ_AI, if_neg (by omega), if_neg (by omega)]
theorem p_cpS {β : Type} {k a : Nat} {h : MHp} (hk : hK h a = 20) (hn : hN h a = 4) (f : MHp → Option β) : (cpS k h 0 (some a) 0 4).bind f = f (sAI h a (va_cpy (stV k) (hAI h a) 0 0 4)) := by
  have e : ¬ ((0 : Int32) < 0 ∨ (0 : Int32) < 0 ∨ (4 : Int32) < 0 ∨ 4 < (0 : Int32).toNatClampNeg + (4 : Int32).toNatClampNeg ∨ hN h a < (0 : Int32).toNatClampNeg + (4 : Int32).toNatClampNeg) := by rw [hn]; decide
  rw [cpS, b_rcv, if_pos hk, if_neg e, o_bind]
  rfl
theorem p_beginAnew {c : Nat} {h : MHp} (L : CL c h) : mX11_beginAnew h c = some (sI (sI (sAI (sI (sAI (sI h c 14 0) (c + 184) (va_cpy (stV 0) (hAI h (c + 184)) 0 0 4)) (c + 194) 1 (-1)) (c + 199) (fun j => if j < 60 then 0 else hAI h (c + 199) j)) (c + 206) 2 0) (c + 206) 0 0) := by
  have K := lK0 L
  obtain ⟨X1, h1⟩ : ∃ X : MHp, X = sI h c 14 0 := ⟨_, rfl⟩
  obtain ⟨X2, h2⟩ : ∃ X : MHp, X = sAI X1 (c + 184) (va_cpy (stV 0) (hAI X1 (c + 184)) 0 0 4) := ⟨_, rfl⟩
  obtain ⟨X3, h3⟩ : ∃ X : MHp, X = sI X2 (c + 194) 1 (-1) := ⟨_, rfl⟩
  have L1 : CL c X1 := by rw [h1]; exact L
  have L2 : CL c X2 := by rw [h2]; exact L1
  have L3 : CL c X3 := by rw [h3]; exact L2
  have f := j_fill (v := 0) (lK199 L3) (lN199 L3) (by omega)
  obtain ⟨X4, h4⟩ : ∃ X : MHp, X = sAI X3 (c + 199) (fun j => if j < 60 then 0 else hAI X3 (c + 199) j) := ⟨_, rfl⟩
  rw [← h4] at f
  have L4 : CL c X4 := by rw [h4]; exact L3
  have a4 : hAI X3 (c + 199) = hAI h (c + 199) := by
    rw [h3, e_AI_sI, h2, e_sAI, if_neg (by omega), h1, e_AI_sI]
  have r : mX11_beginAnew h c = some (sI (sI X4 (c + 206) 2 0) (c + 206) 0 0) := by
    rw [mX11_beginAnew, b_pI, if_pos K, ← h1, b_gR, if_pos (lK0 L1), lR0_5 L1, p_cpS (lK184 L1) (lN184 L1), ← h2, b_gR, if_pos (lK0 L2), lR0_8 L2, b_rcv, if_pos (lK194 L2), mX0_clear, b_pI, if_pos (lK194 L2), ← h3, o_bind, b_gR, if_pos (lK0 L3), lR0_9 L3, b_rcv, if_pos (lK198 L3), mX6_clear, b_gR, if_pos (lK198 L3), lR198_1 L3, f, o_bind, o_bind, b_gR, if_pos (lK0 L4), lR0_11 L4, b_rcv, if_pos (lK206 L4), mX4_clear, b_pI, if_pos (lK206 L4), b_pI, if_pos (by exact lK206 L4), o_bind]
  rw [r, h4, a4, h3, h2, h1, e_AI_sI]
/-- the class shows the state behind a book that was read -/
theorem CR.bk {c b s lo : Nat} {h h' : MHp} {A : AS} {B : Bk} (hbs : b = 2 ∧ s = 57 ∨ b = 57 ∧ s = 2) (e1 : lo = c + s) (C : CR c h A) (F : CF c lo (lo + 53) h h') (i13 : hI h' c 13 = 0) (i15 : hI h' c 15 = 0) (i1 : hI h' (c + 55) 1 = 0) (CBB : CB h' (c + s) B) (w12 : bN B ≤ 12) (nm : ∀ f : Nat, f < bF B → hAL h' (c + s + 1) f = cwd (bM B f)) : CR c (bkZ c b s h') (bA A B) := by
  subst e1
  obtain ⟨⟨b', s', x1, -⟩, ⟨y1, y2, y3, y4, y5, y6, y7, y8, y9⟩, ⟨z1, z2, z3, z4, z5, z6, z7, z8, z9, z10, z11, z12⟩, -⟩ := C
  have L := F.cl x1
  have ai : ∀ a : Nat, a = 1 ∨ (110 ≤ a ∧ a ≤ 119) ∨ 183 ≤ a → hAI h' (c + a) = hAI h (c + a) := fun a ha => (F.2.2.2.2.2.1 (c + a) (by omega) (by omega)).2.1
  have ii : ∀ a j : Nat, 183 ≤ a → hI h' (c + a) j = hI h (c + a) j := fun a j ha => F.2.2.2.2.2.2 (c + a) j (by omega) (by omega) (fun e => by omega)
  have bag : Ag (c + s) (c + s + 53) h' (bkZ c b s h') := bkZ_ag (fun a x y => by omega)
  refine ⟨⟨s, b, bkZ_cl L, by omega, ?_, ?_, CBB.ag bag w12, fun f hf => ?_⟩, ⟨?_, ?_, ?_, ?_, ?_, ?_, ?_, ?_, ?_⟩, ⟨?_, ?_, ?_, ?_, ?_, ?_, ?_, ?_, ?_, ?_, ?_, ?_⟩, ⟨fun r hr => absurd hr (Nat.not_lt_zero r), fun e => absurd rfl e, ⟨0, by omega, ?_, ?_, fun k hk => absurd hk (Nat.not_lt_zero k)⟩, fun k hk => absurd hk (Nat.not_lt_zero k)⟩⟩
  · rw [bkZ_R, if_neg (by omega), if_pos ⟨rfl, rfl⟩]
  · rw [bkZ_R, if_pos ⟨rfl, rfl⟩]
  · rw [(bag (c + s + 1) (by omega) (by omega)).2.2.2.2.2.2.1]; exact nm f hf
  · rw [bkZ_I, if_neg (by omega), if_neg (by omega), if_neg (by omega), if_neg (by omega), if_neg (by omega), if_neg (by omega)]; exact i13
  · rw [bkZ_I, if_neg (by omega), if_neg (by omega), if_neg (by omega), if_pos ⟨rfl, rfl⟩]; rfl
  · rw [bkZ_I, if_neg (by omega), if_neg (by omega), if_neg (by omega), if_neg (by omega), if_neg (by omega), if_neg (by omega)]; exact i15
  · rw [bkZ_I, if_neg (by omega), if_neg (by omega), if_neg (by omega), if_neg (by omega), if_neg (by omega), if_neg (by omega)]; exact i1
  · intro e; exact absurd (show (0 : Int32) = 4 from e) (by decide)
  · rw [bkZ_I, if_neg (by omega), if_neg (by omega), if_neg (by omega), if_neg (by omega), if_neg (by omega), if_pos ⟨rfl, rfl⟩]; rfl
  · rw [bkZ_I, if_neg (by omega), if_neg (by omega), if_neg (by omega), if_neg (by omega), if_pos ⟨rfl, rfl⟩]; rfl
  · rw [bkZ_I, if_neg (by omega), if_neg (by omega), if_neg (by omega), if_neg (by omega), if_neg (by omega), if_neg (by omega), ii 185 1 (by omega)]; exact y8
  · rw [bkZ_I, if_neg (by omega), if_neg (by omega), if_pos ⟨rfl, rfl⟩]; rfl
  · rw [bkZ_AI, if_neg (by omega), if_pos rfl]; rfl
  · rw [bkZ_AI, if_neg (by omega), if_pos rfl]; rfl
  · rw [bkZ_AI, if_neg (by omega), if_pos rfl]; rfl
  · rw [bkZ_AI, if_neg (by omega), if_pos rfl]; rfl
  · rw [bkZ_AI, if_neg (by omega), if_neg (by omega), ai 1 (by omega)]; exact z5
  · rw [bkZ_AI, if_neg (by omega), if_neg (by omega), ai 110 (by omega)]; exact z6
  · rw [bkZ_AI, if_neg (by omega), if_neg (by omega), ai 111 (by omega)]; exact z7
  · rw [bkZ_AI, if_neg (by omega), if_neg (by omega), ai 112 (by omega)]; exact z8
  · rw [bkZ_AI, if_neg (by omega), if_neg (by omega), ai 113 (by omega)]; exact z9
  · rw [bkZ_AI, if_neg (by omega), if_neg (by omega), ai 114 (by omega)]; exact z10
  · rw [bkZ_AI, if_neg (by omega), if_neg (by omega), ai 115 (by omega)]; exact z11
  · rw [bkZ_AI, if_pos rfl, ai 199 (by omega), z12]; rfl
  · rw [bkZ_I, if_pos ⟨rfl, rfl⟩]; rfl
  · rw [bkZ_I, if_neg (by omega), if_pos ⟨rfl, rfl⟩]; rfl

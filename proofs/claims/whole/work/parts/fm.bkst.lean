/-! a text that is read: the states behind it, and what reading changes -/
def B0 : Bk := (0, 0, fun _ => 0, fun _ => 0, fun _ => noT, fun _ => [])
theorem B0_F : bF B0 = 0 := (rfl)
theorem B0_N : bN B0 = 0 := (rfl)
theorem B0_W : WBk B0 := ⟨⟨Nat.zero_le _, Nat.zero_le _, fun f hf => absurd hf (Nat.not_lt_zero f), fun k hk => absurd hk (Nat.not_lt_zero k)⟩, fun f hf => absurd hf (Nat.not_lt_zero f), (show (1 : Nat) ≤ 20000 by decide)⟩
theorem kf_pos {B : Bk} {t : Tok} (h : kf B t = 0) : 0 < bF B := by
  unfold kf at h
  by_cases a : isN t = true
  · rw [if_pos a] at h
    by_cases b : fN B (kL t) < bF B
    · omega
    · rw [if_neg b] at h; exact absurd h n20
  · rw [if_neg a] at h; exact absurd h n10
theorem rl_F {g : Nat → Int32} {n : Nat} {B : Bk} {t : Tok} (h : rlF g n B t = 0) : 0 < bF (rlB g n B t) := by
  unfold rlF at h
  unfold rlB
  by_cases a0 : isW t 0 = true
  · rw [if_pos a0]
    unfold rfB
    rw [addF_F]
    omega
  · rw [if_neg a0] at h
    rw [if_neg a0, addN_F]
    by_cases a1 : isW t 1 = true
    · rw [if_pos a1] at h
      unfold nvF at h
      by_cases a2 : bN B < 12
      · rw [if_pos a2] at h
        have e := tsR_s g n B 12 noT (nxt g n t)
        unfold tstR at h
        rw [show (13 : Nat) = 12 + 1 from rfl, e] at h
        by_cases e0 : oF g n B noT (nxt g n t) = 0
        · unfold oF at e0
          by_cases k0 : kf B (nxt g n t) = 0
          · exact kf_pos k0
          · rw [if_neg k0] at e0; exact absurd e0 k0
        · rw [if_neg e0] at h; exact absurd h e0
      · rw [if_neg a2] at h; exact absurd h n50
    · rw [if_neg a1] at h; exact absurd h n10
/-- a book that was read has a field -/
theorem bk_F {g : Nat → Int32} {n : Nat} : ∀ (q : Nat) (B : Bk) (t : Tok), 0 < bF B ∨ 1 ≤ q → (bkR g n q B t).1 = 0 → 0 < bF (bkR g n q B t).2.2 := by
  intro q
  induction q with
  | zero =>
    intro B t hh _
    show 0 < bF B
    rcases hh with hh | hh
    · exact hh
    · omega
  | succ q ih =>
    intro B t _ h
    rw [bkR_s] at h ⊢
    by_cases e0 : rlF g n B t = 0
    · rw [if_pos e0] at h ⊢
      by_cases a0 : kK (rlT g n B t) = 0
      · rw [if_pos a0] at h ⊢; exact rl_F e0
      · rw [if_neg a0] at h ⊢
        by_cases a1 : kK (rlT g n B t) = 3 ∧ kV (rlT g n B t) = 59
        · rw [if_pos a1] at h ⊢; exact ih _ _ (Or.inl (rl_F e0)) h
        · rw [if_neg a1] at h; exact absurd h n10
    · rw [if_neg e0] at h; exact absurd h e0
/-- the state behind a text with a fault, or behind a refusal that took the tape -/
def fA (A : AS) (t f x : Int32) : AS := setS (setS (setS (setN A 0 0) 0 t) 1 f) 2 x
theorem fA_N0 (A : AS) (t f x : Int32) : aN (fA A t f x) 0 = 0 := (rfl)
theorem fA_N (A : AS) (t f x : Int32) {k : Nat} (hk : k ≠ 0) : aN (fA A t f x) k = aN A k := by
  show (if k = 0 then 0 else aN A k) = aN A k
  rw [if_neg hk]
theorem fA_S (A : AS) (t f x : Int32) {k : Nat} (hk : 2 < k) : aS (fA A t f x) k = aS A k := by
  show (if k = 2 then x else if k = 1 then f else if k = 0 then t else aS A k) = aS A k
  rw [if_neg (by omega), if_neg (by omega), if_neg (by omega)]
theorem fA_S0 (A : AS) (t f x : Int32) : aS (fA A t f x) 0 = t := (rfl)
theorem fA_S1 (A : AS) (t f x : Int32) : aS (fA A t f x) 1 = f := (rfl)
theorem fA_S2 (A : AS) (t f x : Int32) : aS (fA A t f x) 2 = x := (rfl)
theorem WA.fA {A : AS} (W : WA A) (t f x : Int32) : WA (fA A t f x) := by
  obtain ⟨v1, v2, v3, v4, v5, v6, v7, v8, v9, v10, v11⟩ := W
  exact ⟨v1, Nat.zero_le _, v3, v4, v5, v6, v7, v8, v9, v10, v11⟩
/-- what reading a text changes of the class -/
def CF (c lo hi : Nat) (h h' : MHp) : Prop := hK h' = hK h ∧ hN h' = hN h ∧ hAR h' = hAR h ∧ hS h' = hS h ∧ (∀ a j : Nat, a ≠ c + 55 ∨ j = 0 → hR h' a j = hR h a j) ∧ (∀ a : Nat, a ≠ c + 55 → a < lo ∨ hi ≤ a → hL h' a = hL h a ∧ hAI h' a = hAI h a ∧ hAL h' a = hAL h a) ∧ ∀ a j : Nat, a ≠ c + 55 → a < lo ∨ hi ≤ a → (a = c → j ≠ 13 ∧ j ≠ 15) → hI h' a j = hI h a j
theorem CF.rf {c lo hi : Nat} {h : MHp} : CF c lo hi h h := ⟨rfl, rfl, rfl, rfl, fun _ _ _ => rfl, fun _ _ _ => ⟨rfl, rfl, rfl⟩, fun _ _ _ _ _ => rfl⟩
theorem CF.tr {c lo hi : Nat} {h h1 h2 : MHp} (A : CF c lo hi h h1) (B : CF c lo hi h1 h2) : CF c lo hi h h2 := by
  obtain ⟨a1, a2, a3, a4, a5, a6, a7⟩ := A
  obtain ⟨b1, b2, b3, b4, b5, b6, b7⟩ := B
  refine ⟨b1.trans a1, b2.trans a2, b3.trans a3, b4.trans a4, fun a j d => (b5 a j d).trans (a5 a j d), fun a d e => ?_, fun a j d e f => (b7 a j d e f).trans (a7 a j d e f)⟩
  obtain ⟨x1, x2, x3⟩ := a6 a d e
  obtain ⟨y1, y2, y3⟩ := b6 a d e
  exact ⟨y1.trans x1, y2.trans x2, y3.trans x3⟩
theorem CF.wd {c lo hi : Nat} {h h' : MHp} (A : CF c 0 0 h h') : CF c lo hi h h' := by
  obtain ⟨a1, a2, a3, a4, a5, a6, a7⟩ := A
  exact ⟨a1, a2, a3, a4, a5, fun a d _ => a6 a d (Or.inr (Nat.zero_le _)), fun a j d _ f => a7 a j d (Or.inr (Nat.zero_le _)) f⟩
theorem CF.fb {c bo : Nat} {h h' : MHp} (F : FB c bo h h') : CF c bo (bo + 53) h h' := by
  obtain ⟨a1, a2, a3, a4, a5, a6, a7⟩ := F
  refine ⟨a1, a2, a4, a5, fun a j _ => by rw [a3], fun a d e => ?_, fun a j d e _ => by rw [(a6 a d e).1]⟩
  obtain ⟨x1, x2, x3, x4⟩ := a6 a d e
  exact ⟨x2, x3, x4⟩
theorem CF.sp {c lo hi : Nat} {h h' : MHp} (S : Sp c h h') : CF c lo hi h h' := by
  obtain ⟨a1, a2, a3, a4, a5, a6, a7, a8, a9⟩ := S
  exact ⟨a1, a2, a4, a7, fun a j _ => by rw [a3], fun a d _ => ⟨(a8 a d).2, by rw [a5], by rw [a6]⟩, fun a j d _ _ => by rw [(a8 a d).1]⟩
theorem CF.R8 {c lo hi : Nat} {h : MHp} (v : Option Nat) : CF c lo hi h (sR h (c + 55) 8 v) :=
  ⟨rfl, rfl, rfl, rfl, fun a j d => by rw [e_sR, if_neg (by omega)], fun _ _ _ => ⟨rfl, rfl, rfl⟩, fun _ _ _ _ _ => rfl⟩
theorem CF.I55 {c lo hi : Nat} {h : MHp} (j : Nat) (v : Int32) : CF c lo hi h (sI h (c + 55) j v) :=
  ⟨rfl, rfl, rfl, rfl, fun _ _ _ => rfl, fun _ _ _ => ⟨rfl, rfl, rfl⟩, fun a i d _ _ => by rw [e_sI, if_neg (by omega)]⟩
theorem CF.I0 {c lo hi : Nat} {h : MHp} (j : Nat) (v : Int32) (hj : j = 13 ∨ j = 15) : CF c lo hi h (sI h c j v) :=
  ⟨rfl, rfl, rfl, rfl, fun _ _ _ => rfl, fun _ _ _ => ⟨rfl, rfl, rfl⟩, fun a i _ _ f => by rw [e_sI, if_neg (fun e => by have := f e.1; omega)]⟩
theorem CF.I {c lo hi : Nat} {h : MHp} (a j : Nat) (v : Int32) (d : lo ≤ a ∧ a < hi) : CF c lo hi h (sI h a j v) :=
  ⟨rfl, rfl, rfl, rfl, fun _ _ _ => rfl, fun _ _ _ => ⟨rfl, rfl, rfl⟩, fun b i _ e _ => by rw [e_sI, if_neg (by omega)]⟩
theorem CF.cl {c lo hi : Nat} {h h' : MHp} (F : CF c lo hi h h') (L : CL c h) : CL c h' := by
  obtain ⟨l1, l2, l3⟩ := L
  obtain ⟨a1, a2, a3, a4, a5, -⟩ := F
  have b2 : ∀ x : Nat × Nat × Nat, x ∈ clR → x.1 ≠ 55 ∨ x.2.1 = 0 := by decide +kernel
  refine ⟨by rw [a1, a2]; exact l1, fun x hx => ?_, by rw [a3]; exact l3⟩
  have := b2 x hx
  rw [a5 _ _ (by omega)]
  exact l2 x hx
theorem CF.ag {c lo hi p q : Nat} {h h' : MHp} (F : CF c lo hi h h') (d : ∀ a : Nat, p ≤ a → a < q → a ≠ c ∧ a ≠ c + 55 ∧ (a < lo ∨ hi ≤ a)) : Ag p q h h' := by
  intro a x y
  obtain ⟨a1, a2, a3, a4, a5, a6, a7⟩ := F
  obtain ⟨d1, d2, d3⟩ := d a x y
  obtain ⟨z1, z2, z3⟩ := a6 a d2 d3
  refine ⟨by rw [a1], by rw [a2], ?_, z1, ?_, z2, z3, by rw [a3]⟩
  · funext j; exact a7 a j d2 d3 (fun e => absurd e d1)
  · funext j; exact a5 a j (Or.inl d2)
theorem CF.oc {c lo hi : Nat} {h h' : MHp} (F : CF c lo hi h h') (d : c ≤ lo ∧ hi ≤ c + 208) : Oc c h h' := ⟨F.2.2.2.1, fun p q e => F.ag (fun a x y => by omega)⟩
/-- the class shows the state behind a text that was read -/
theorem CR.cf {c lo hi : Nat} {h h' : MHp} {A : AS} {t f x : Int32} (W : WA A) (F : CF c lo hi h h') (C : CR c h A) (d : (∃ s : Nat, (s = 2 ∨ s = 57) ∧ hR h c 12 = some (c + s) ∧ lo = c + s ∧ hi = c + s + 53) ∨ (c + 120 + 7 * aN A 1 ≤ lo ∧ hi ≤ c + 183)) (i13 : hI h' c 13 = 0) (i15 : hI h' c 15 = t) (i1 : hI h' (c + 55) 1 = f) (i2 : t = 4 → hI h' (c + 55) 2 = x) : CR c h' (fA A t f x) := by
  obtain ⟨⟨b, s, x1, x2, x3, x4, x5, x6⟩, ⟨y1, y2, y3, y4, y5, y6, y7, y8, y9⟩, ⟨z1, z2, z3, z4, z5, z6, z7, z8, z9, z10, z11, z12⟩, w1, w2, w3, w4⟩ := C
  have h8 := W.2.2.1
  have D : (c + b + 53 ≤ lo ∨ hi ≤ c + b) ∧ (∀ a : Nat, a = 1 ∨ a = 56 ∨ (110 ≤ a ∧ a ≤ 119) ∨ 183 ≤ a → c + a < lo ∨ hi ≤ c + a) ∧ (∀ k : Nat, k < aN A 1 → c + 120 + 7 * k + 7 ≤ lo ∨ hi ≤ c + 120 + 7 * k) ∧ (c < lo ∨ hi ≤ c) := by
    rcases d with ⟨s', d1, d2, d3, d4⟩ | ⟨d1, d2⟩
    · rw [x4] at d2
      have e : c + s = c + s' := Option.some.inj d2
      refine ⟨by omega, fun a ha => by omega, fun k hk => by omega, by omega⟩
    · refine ⟨by omega, fun a ha => by omega, fun k hk => by omega, by omega⟩
  obtain ⟨D1, D2, D3, D4⟩ := D
  have ai : ∀ a : Nat, a = 1 ∨ (110 ≤ a ∧ a ≤ 119) ∨ 183 ≤ a → hAI h' (c + a) = hAI h (c + a) := fun a ha => (F.2.2.2.2.2.1 (c + a) (by omega) (D2 a (by omega))).2.1
  have ii : ∀ a j : Nat, a = 56 ∨ 183 ≤ a → hI h' (c + a) j = hI h (c + a) j := fun a j ha => F.2.2.2.2.2.2 (c + a) j (by omega) (D2 a (by omega)) (fun e => by omega)
  have rr : ∀ a j : Nat, a ≠ c + 55 → hR h' a j = hR h a j := fun a j e => F.2.2.2.2.1 a j (Or.inl e)
  have bag : Ag (c + b) (c + b + 53) h h' := F.ag (fun a x y => ⟨by omega, by omega, by omega⟩)
  refine ⟨⟨b, s, F.cl x1, x2, by rw [rr _ _ (by omega)]; exact x3, by rw [rr _ _ (by omega)]; exact x4, x5.ag bag W.1.2.1, fun f hf => ?_⟩, ⟨?_, ?_, ?_, ?_, ?_, ?_, ?_, ?_, ?_⟩, ?_, ?_, ?_, ?_, fun k hk => ?_⟩
  · rw [(bag (c + b + 1) (by omega) (by omega)).2.2.2.2.2.2.1]; exact x6 f hf
  · rw [fA_N0]; exact i13
  · rw [fA_N _ _ _ _ (by decide), F.2.2.2.2.2.2 c 14 (by omega) D4 (fun _ => by decide)]; exact y2
  · rw [fA_S0]; exact i15
  · rw [fA_S1]; exact i1
  · rw [fA_S0, fA_S2]; exact i2
  · rw [fA_N _ _ _ _ (by decide), ii 56 6 (by omega)]; exact y6
  · rw [fA_S _ _ _ _ (by decide), ii 56 7 (by omega)]; exact y7
  · rw [fA_S _ _ _ _ (by decide), ii 185 1 (by omega)]; exact y8
  · rw [fA_S _ _ _ _ (by decide), ii 194 1 (by omega)]; exact y9
  · unfold CR2
    rw [fA_S _ _ _ _ (show 2 < 6 by decide), fA_S _ _ _ _ (show 2 < 7 by decide), fA_S _ _ _ _ (show 2 < 8 by decide), fA_S _ _ _ _ (show 2 < 9 by decide), ai 184 (by omega), ai 1 (by omega), ai 110 (by omega), ai 111 (by omega), ai 112 (by omega), ai 113 (by omega), ai 114 (by omega), ai 115 (by omega), ai 199 (by omega)]
    exact ⟨z1, z2, z3, z4, z5, z6, z7, z8, z9, z10, z11, z12⟩
  · rw [fA_N _ _ _ _ (by decide), ai 116 (by omega), ai 117 (by omega)]; exact w1
  · rw [fA_S _ _ _ _ (by decide), ai 195 (by omega)]; exact w2
  · rw [fA_N _ _ _ _ (by decide), ii 206 0 (by omega), ii 206 2 (by omega), ai 207 (by omega)]; exact w3
  · rw [fA_N _ _ _ _ (by decide)] at hk
    have dk := D3 k hk
    have pag : Ag (c + 120 + 7 * k) (c + 120 + 7 * k + 7) h h' := F.ag (fun a x y => ⟨by omega, by omega, by omega⟩)
    exact ⟨(w4 k hk).1.ag pag, (w4 k hk).2.ag pag⟩
/-! the tape -/
theorem p_tape1 {c u k : Nat} {h : MHp} (L : CL c h) (e : hI h c 13 = Int32.ofNat u) (hu : u ≤ 500) (hk : k ≤ u) : mX11_isOnTape h c (Int32.ofNat k) = some 1 := by
  rw [mX11_isOnTape, if_neg (nlt0 (by omega)), b_gI, if_pos (lK0 L), e, if_neg (by rw [lt_of' (by omega) (by omega)]; omega)]
theorem p_tape0 {c u : Nat} {a : Int32} {h : MHp} (L : CL c h) (e : hI h c 13 = Int32.ofNat u) (hu : u ≤ 500) (ha : ∀ k : Nat, k < u + 1 → a ≠ Int32.ofNat k) : mX11_isOnTape h c a = some 0 := by
  by_cases h1 : a < 0
  · rw [mX11_isOnTape, if_pos h1]
  · obtain ⟨k, rfl, hk⟩ := ex_of h1
    have h2 : u < k := Nat.lt_of_not_le (fun hh => ha k (by omega) rfl)
    rw [mX11_isOnTape, if_neg h1, b_gI, if_pos (lK0 L), e, if_pos (by rw [lt_of' (by omega) hk]; exact h2)]
/-! the class begins to read -/
theorem p_begin {c n : Nat} {g : Nat → Int32} {h : MHp} (L : CL c h) (hg : hAI h (c + 1) = g) (hn : n ≤ 500) (p : Nat) : ∃ h1 : MHp, mX8_begin h (c + 55) (Int32.ofNat n) (some p) = some h1 ∧ PC c g n (tokAt g n 0) h1 ∧ hR h1 (c + 55) 8 = some p ∧ hI h1 (c + 55) 1 = 0 ∧ CF c 0 0 h h1 ∧ hI h1 c = hI h c := by
  obtain ⟨X, hX⟩ : ∃ X : MHp, X = sI (sI (sI (sR h (c + 55) 8 (some p)) (c + 55) 1 0) (c + 55) 3 (Int32.ofNat n)) (c + 55) 4 0 := ⟨_, rfl⟩
  have FX : CF c 0 0 h X := by rw [hX]; exact (((CF.R8 _).tr (CF.I55 1 _)).tr (CF.I55 3 _)).tr (CF.I55 4 _)
  have LX : CL c X := FX.cl L
  have cX : hI X c = hI h c := by
    funext j
    rw [hX, e_sI, if_neg (by omega), e_sI, if_neg (by omega), e_sI, if_neg (by omega)]
    rfl
  have TX : TS c g n X := ⟨LX, by rw [hX]; exact hg, by rw [hX, e_sI, if_neg (by omega), e_Iself], hn⟩
  have i4 : hI X (c + 55) 4 = Int32.ofNat 0 := by rw [hX, e_Iself]; rfl
  have i1 : hI X (c + 55) 1 = 0 := by rw [hX, e_sI, if_neg (by omega), e_sI, if_neg (by omega), e_Iself]
  have r8 : hR X (c + 55) 8 = some p := by
    rw [hX]
    show hR (sR h (c + 55) 8 (some p)) (c + 55) 8 = some p
    rw [e_sR, if_pos ⟨rfl, rfl⟩]
  obtain ⟨h1, e1, S1, P1⟩ := p_step TX i4 (Nat.zero_le n)
  refine ⟨h1, ?_, P1, by rw [S1.2.2.1]; exact r8, by rw [S1.2.2.2.2.2.2.2.2.2]; exact i1, FX.tr (CF.sp S1), by rw [(S1.2.2.2.2.2.2.2.1 c (by omega)).1]; exact cX⟩
  have K := lK55 L
  have m0 : mJ9_min_7cf53 (sI (sR h (c + 55) 8 (some p)) (c + 55) 1 0) (Int32.ofNat n) (Int32.ofNat 500) = some (Int32.ofNat n) := by
    rw [mJ9_min_7cf53, if_neg (by rw [lt_of' (by omega) (by omega)]; omega)]
  have x0 : hR (sI (sR h (c + 55) 8 (some p)) (c + 55) 1 0) (c + 55) 0 = some (c + 1) := by
    show hR (sR h (c + 55) 8 (some p)) (c + 55) 0 = some (c + 1)
    rw [e_sR, if_neg (by omega)]
    exact lR55_0 L
  have N1 : hN (sI (sR h (c + 55) 8 (some p)) (c + 55) 1 0) (c + 1) = 500 := (show hN h (c + 1) = 500 from lN1 L)
  rw [mX8_begin, b_pR, if_pos K, b_pI, if_pos (by exact K), b_gR, if_pos (by exact K), x0, b_gN, if_pos (by exact (show hK h (c + 1) = 22 from lK1 L)), N1, m0, o_bind, b_pI, if_pos (by exact K), b_pI, if_pos (by exact K), ← hX, b_rcv, if_pos (by exact lK55 LX), e1, o_bind]
theorem GT_0 (g : Nat → Int32) (n : Nat) : GT g n (tokAt g n 0) := ⟨0, Nat.zero_le n, rfl⟩
theorem o0 : Int32.ofNat 0 = (0 : Int32) := (rfl)

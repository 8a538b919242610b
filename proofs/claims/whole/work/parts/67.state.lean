/-! the office's state, as numbers and functions -/
def Pl : Type := Option Nat × Option Nat × Option Nat × Ts
def pS (p : Pl) : Option Nat := p.1
def pI1 (p : Pl) : Option Nat := p.2.1
def pI2 (p : Pl) : Option Nat := p.2.2.1
def pW (p : Pl) : Ts := p.2.2.2
def oi : Option Nat → Int32
  | none => -1
  | some f => Int32.ofNat f
/-- how many values a field has, one without a field -/
def vs (B : Bk) : Option Nat → Nat
  | none => 1
  | some f => bT B f + 1
def WO (nf : Nat) (o : Option Nat) : Prop := ∀ f : Nat, o = some f → f < nf
def WP (B : Bk) (p : Pl) : Prop := WO (bF B) (pS p) ∧ WO (bF B) (pI1 p) ∧ WO (bF B) (pI2 p) ∧ (pI1 p = none → pI2 p = none) ∧ WT (bF B) (pW p)
/-- counts (0 bytes, 1 tables, 2 rows, 3 lots), ints (0 trouble, 1 fault, 2 place, 3 today, 4 giver, 5 agreed, 6 .. 9 settings), rows of ints (0 tape, 1 born, 2 gone, 3 mended, 4 filled, 5 weight, 6 came, 7 mended values, 8 filled values, 9 mended sets, 10 sums, 11 groups, 12 lots), book, plans, what was told -/
def AS : Type := (Nat → Nat) × (Nat → Int32) × (Nat → Nat → Int32) × Bk × (Nat → Pl) × (Nat → Nat → Option (Int64 × Int64))
def aN (A : AS) : Nat → Nat := A.1
def aS (A : AS) : Nat → Int32 := A.2.1
def aA (A : AS) : Nat → Nat → Int32 := A.2.2.1
def aB (A : AS) : Bk := A.2.2.2.1
def aP (A : AS) : Nat → Pl := A.2.2.2.2.1
def aT (A : AS) : Nat → Nat → Option (Int64 × Int64) := A.2.2.2.2.2
def mkA (n : Nat → Nat) (s : Nat → Int32) (a : Nat → Nat → Int32) (b : Bk) (p : Nat → Pl) (t : Nat → Nat → Option (Int64 × Int64)) : AS := (n, s, a, b, p, t)
def mb (s : Int32) (f : Nat) : Bool := decide ((s >>> (Int32.ofNat f &&& 31)) &&& 1 = 1)
/-- a row's value in a field on a day by a filling -/
def vA (A : AS) (r f : Nat) (d : Int32) (fil : Nat) : Int32 :=
  if (sn (aA A 3 r) d && mb (aA A 9 r) f) = true then aA A 7 (r * 6 + f) else if aA A 6 (r * 6 + f) = -1 then (if sn (aA A 4 r) d = true then aA A 8 (6 * (5 * r + fil) + f) else -1) else aA A 6 (r * 6 + f)
/-- a name's letters -/
def WL (l : List Nat) : Prop := 1 ≤ l.length ∧ l.length ≤ 8 ∧ ∀ b : Nat, b ∈ l → 97 ≤ b ∧ b ≤ 122
/-- the space of a book's first fields -/
def spT (b : Bk) : Nat → Nat
  | 0 => 1
  | n + 1 => spT b n * (bT b n + 1)
/-- bytes are bytes, names are words, the space isn't too much -/
def WZ (g : Nat → Int32) (B : Bk) : Prop := (∀ k : Nat, (g k).toInt8.toInt32 = g k) ∧ (∀ f : Nat, f < bF B → WL (bM B f)) ∧ spT B (bF B) ≤ 20000
def WA (A : AS) : Prop := WB (aB A) ∧ aN A 0 ≤ 500 ∧ aN A 1 ≤ 8 ∧ aN A 2 ≤ 60 ∧ aN A 3 ≤ 100 ∧ (∀ k : Nat, k < aN A 1 → WP (aB A) (aP A k)) ∧ (bF (aB A) = 0 → aN A 1 = 0 ∧ aN A 2 = 0 ∧ aN A 3 = 0 ∧ aS A 5 = -1 ∧ bN (aB A) = 0) ∧ 0 ≤ aS A 3 ∧ aS A 3 ≤ 999
  ∧ (∀ r : Nat, r < aN A 2 → aA A 1 r ≤ aS A 3 ∧ 0 ≤ aA A 1 r ∧ aA A 2 r ≤ aS A 3 ∧ aA A 3 r ≤ aS A 3 ∧ aA A 4 r ≤ aS A 3 ∧ (aA A 2 r ≠ -2 → 0 ≤ aA A 2 r) ∧ (aA A 3 r ≠ -2 → 0 ≤ aA A 3 r) ∧ (aA A 4 r ≠ -2 → 0 ≤ aA A 4 r) ∧ 1 ≤ aA A 5 r ∧ aA A 5 r ≤ 99
    ∧ (∀ f : Nat, f < bF (aB A) → (-1) ≤ aA A 6 (r * 6 + f) ∧ aA A 6 (r * 6 + f) ≤ Int32.ofNat (bT (aB A) f)
      ∧ (aA A 3 r ≠ -2 → mb (aA A 9 r) f = true → aA A 6 (r * 6 + f) ≠ -1 ∧ 0 ≤ aA A 7 (r * 6 + f) ∧ aA A 7 (r * 6 + f) ≤ Int32.ofNat (bT (aB A) f))
      ∧ (aA A 4 r ≠ -2 → ∀ fil : Nat, fil < 5 → 0 ≤ aA A 8 (6 * (5 * r + fil) + f) ∧ aA A 8 (6 * (5 * r + fil) + f) ≤ Int32.ofNat (bT (aB A) f)))
    ∧ (aA A 4 r ≠ -2 → bB (aB A) (fun f => vA A r f (aS A 3) 0) = bN (aB A)))
  ∧ (aS A 5 = -1 ∨ ∃ f : Nat, f < bF (aB A) ∧ aS A 5 = Int32.ofNat f ∧ bT (aB A) f ≤ 2 ∧ ∀ v : Nat, v < 3 → 0 ≤ aA A 10 v ∧ aA A 10 v ≤ 1000000)
  ∧ 1 ≤ aS A 6 ∧ aS A 6 ≤ 20 ∧ 1 ≤ aS A 7 ∧ aS A 7 ≤ 50 ∧ 1 ≤ aS A 8 ∧ aS A 8 ≤ 99 ∧ 0 ≤ aS A 9 ∧ aS A 9 ≤ 1000 ∧ WZ (aA A 0) (aB A)
/-- a name as the class keeps it, and as the reference does -/
def cwd (l : List Nat) : Int64 := Int64.ofNat (l.foldl (fun w b => w * 256 + b) 0)
def rwd (l : List Nat) : Int64 := Int64.ofNat (l.foldl (fun w b => 32 * w + (b - 96)) 0)
def CP (h : MHp) (p : Nat) (B : Bk) (P : Pl) : Prop := hI h p 3 = oi (pS P) ∧ hI h p 4 = oi (pI1 P) ∧ hI h p 5 = oi (pI2 P) ∧ hI h p 6 = Int32.ofNat (vs B (pI1 P)) ∧ hI h p 7 = Int32.ofNat (vs B (pI2 P)) ∧ CT h (p + 1) (pW P)
def CX (h : MHp) (p : Nat) (t : Nat → Option (Int64 × Int64)) : Prop := ∀ k : Nat, k < 100 → match t k with
  | none => hAL h (p + 6) k = -1
  | some x => hAL h (p + 5) k = x.1 ∧ hAL h (p + 6) k = x.2 ∧ x.2 ≠ -1
/-- the class's objects, as they lie -/
def CR0 (c b s : Nat) (h : MHp) (B : Bk) : Prop := CL c h ∧ (b = 2 ∧ s = 57 ∨ b = 57 ∧ s = 2) ∧ hR h (c + 56) 5 = some (c + b) ∧ hR h c 12 = some (c + s) ∧ CB h (c + b) B ∧ ∀ f : Nat, f < bF B → hAL h (c + b + 1) f = cwd (bM B f)
def CR1 (c : Nat) (h : MHp) (A : AS) : Prop := hI h c 13 = Int32.ofNat (aN A 0) ∧ hI h c 14 = Int32.ofNat (aN A 1) ∧ hI h c 15 = aS A 0 ∧ hI h (c + 55) 1 = aS A 1 ∧ (aS A 0 = 4 → hI h (c + 55) 2 = aS A 2) ∧ hI h (c + 56) 6 = Int32.ofNat (aN A 2) ∧ hI h (c + 56) 7 = aS A 3 ∧ hI h (c + 185) 1 = aS A 4 ∧ hI h (c + 194) 1 = aS A 5
def CR2 (c : Nat) (h : MHp) (A : AS) : Prop := hAI h (c + 184) 0 = aS A 6 ∧ hAI h (c + 184) 1 = aS A 7 ∧ hAI h (c + 184) 2 = aS A 8 ∧ hAI h (c + 184) 3 = aS A 9 ∧ hAI h (c + 1) = aA A 0 ∧ hAI h (c + 110) = aA A 1 ∧ hAI h (c + 111) = aA A 2 ∧ hAI h (c + 112) = aA A 3 ∧ hAI h (c + 113) = aA A 4 ∧ hAI h (c + 114) = aA A 5 ∧ hAI h (c + 115) = aA A 6 ∧ hAI h (c + 199) = aA A 11
def CR3 (c : Nat) (h : MHp) (A : AS) : Prop := (∀ r : Nat, r < aN A 2 → ∀ f : Nat, f < bF (aB A) → (aA A 3 r ≠ -2 → hAI h (c + 116) (r * 6 + f) = if mb (aA A 9 r) f = true then aA A 7 (r * 6 + f) else aA A 6 (r * 6 + f)) ∧ (aA A 4 r ≠ -2 → aA A 6 (r * 6 + f) = -1 → ∀ fil : Nat, fil < 5 → hAI h (c + 117) (fil * 360 + (r * 6 + f)) = aA A 8 (6 * (5 * r + fil) + f)))
  ∧ (aS A 5 ≠ -1 → ∀ v : Nat, v < 3 → hAI h (c + 195) v = aA A 10 v)
  ∧ (∃ hd : Nat, hd < 100 ∧ hI h (c + 206) 0 = Int32.ofNat (aN A 3) ∧ hI h (c + 206) 2 = Int32.ofNat hd ∧ ∀ k : Nat, k < aN A 3 → hAI h (c + 207) ((hd + k) % 100) = aA A 12 k)
  ∧ ∀ k : Nat, k < aN A 1 → CP h (c + 120 + 7 * k) (aB A) (aP A k) ∧ CX h (c + 120 + 7 * k) (aT A k)
def CR (c : Nat) (h : MHp) (A : AS) : Prop := (∃ b s : Nat, CR0 c b s h (aB A)) ∧ CR1 c h A ∧ CR2 c h A ∧ CR3 c h A
/-! what a call writes down and forgets -/
def scr (k : Nat) : Bool := decide (k = 118 ∨ k = 183 ∨ (186 ≤ k ∧ k ≤ 191) ∨ k = 193 ∨ (196 ≤ k ∧ k ≤ 198) ∨ (200 ≤ k ∧ k ≤ 205))
def Sc (c : Nat) (h h' : MHp) : Prop := hK h' = hK h ∧ hN h' = hN h ∧ hR h' = hR h ∧ hAR h' = hAR h ∧ hS h' = hS h ∧ hI h' (c + 194) 1 = hI h (c + 194) 1 ∧ ∀ a : Nat, (∀ k : Nat, scr k = true → a ≠ c + k) → (a ≠ c + 194 → hI h' a = hI h a ∧ hL h' a = hL h a) ∧ hAI h' a = hAI h a ∧ hAL h' a = hAL h a
theorem Sc.rf {c : Nat} {h : MHp} : Sc c h h := ⟨rfl, rfl, rfl, rfl, rfl, rfl, fun _ _ => ⟨fun _ => ⟨rfl, rfl⟩, rfl, rfl⟩⟩
theorem Sc.tr {c : Nat} {h h1 h2 : MHp} (A : Sc c h h1) (B : Sc c h1 h2) : Sc c h h2 := by
  obtain ⟨a1, a2, a3, a4, a5, a6, a7⟩ := A
  obtain ⟨b1, b2, b3, b4, b5, b6, b7⟩ := B
  refine ⟨b1.trans a1, b2.trans a2, b3.trans a3, b4.trans a4, b5.trans a5, b6.trans a6, fun a ha => ?_⟩
  obtain ⟨x1, x2, x3⟩ := a7 a ha
  obtain ⟨y1, y2, y3⟩ := b7 a ha
  exact ⟨fun h => ⟨(y1 h).1.trans (x1 h).1, (y1 h).2.trans (x1 h).2⟩, y2.trans x2, y3.trans x3⟩
theorem Sc.AI {c : Nat} {h : MHp} (k : Nat) (g : Nat → Int32) (hk : scr k = true) : Sc c h (sAI h (c + k) g) :=
  ⟨rfl, rfl, rfl, rfl, rfl, rfl, fun a ha => ⟨fun _ => ⟨rfl, rfl⟩, va_ne _ _ (ha k hk), rfl⟩⟩
theorem Sc.AL {c : Nat} {h : MHp} (k : Nat) (g : Nat → Int64) (hk : scr k = true) : Sc c h (sAL h (c + k) g) :=
  ⟨rfl, rfl, rfl, rfl, rfl, rfl, fun a ha => ⟨fun _ => ⟨rfl, rfl⟩, rfl, va_ne _ _ (ha k hk)⟩⟩
theorem Sc.I {c : Nat} {h : MHp} (k j : Nat) (v : Int32) (hk : scr k = true) : Sc c h (sI h (c + k) j v) :=
  ⟨rfl, rfl, rfl, rfl, rfl, (by show up2 _ _ _ _ _ _ = _; rw [up2_ne]; intro e; have : k = 194 := by omega
                                subst this; revert hk; decide), fun a ha => ⟨fun _ => ⟨up2_ne _ _ _ (ha k hk), rfl⟩, rfl, rfl⟩⟩
theorem Sc.L {c : Nat} {h : MHp} (j : Nat) (v : Int64) : Sc c h (sL h (c + 194) j v) :=
  ⟨rfl, rfl, rfl, rfl, rfl, rfl, fun a ha => ⟨fun e => ⟨rfl, up2_ne _ _ _ e⟩, rfl, rfl⟩⟩
theorem Sc.ag {c lo hi : Nat} {h h' : MHp} (S : Sc c h h') (d : ∀ a : Nat, lo ≤ a → a < hi → a ≠ c + 194 ∧ ∀ k : Nat, scr k = true → a ≠ c + k) : Ag lo hi h h' := by
  intro a x y
  obtain ⟨a1, a2, a3, a4, a5, a6, a7⟩ := S
  obtain ⟨d1, d2⟩ := d a x y
  obtain ⟨z1, z2, z3⟩ := a7 a d2
  exact ⟨by rw [a1], by rw [a2], (z1 d1).1, (z1 d1).2, by rw [a3], z2, z3, by rw [a4]⟩
theorem scr_p {k : Nat} (h : scr k = true) : k = 118 ∨ (183 ≤ k ∧ k ≤ 205 ∧ k ≠ 184 ∧ k ≠ 185 ∧ k ≠ 192 ∧ k ≠ 194 ∧ k ≠ 195 ∧ k ≠ 199) := by
  simp only [scr, decide_eq_true_eq] at h
  omega
theorem Sc.out {c lo hi : Nat} {h h' : MHp} (S : Sc c h h') (d : hi ≤ c ∨ c + 208 ≤ lo) : Ag lo hi h h' := S.ag (fun a x y => ⟨by omega, fun k hk => by have := scr_p hk; omega⟩)
theorem Sc.cell {c : Nat} {h h' : MHp} (S : Sc c h h') {a : Nat} (d : a ≠ 194 ∧ scr a = false) : hI h' (c + a) = hI h (c + a) ∧ hAI h' (c + a) = hAI h (c + a) := by
  obtain ⟨a1, a2, a3, a4, a5, a6, a7⟩ := S
  obtain ⟨z1, z2, z3⟩ := a7 (c + a) (fun k hk e => by rw [show k = a by omega] at hk; rw [hk] at d; cases d.2)
  exact ⟨(z1 (by omega)).1, z2⟩
theorem CP.ag {h h' : MHp} {p : Nat} {B : Bk} {P : Pl} (A : Ag p (p + 7) h h') (C : CP h p B P) : CP h' p B P := by
  obtain ⟨c1, c2, c3, c4, c5, c6⟩ := C
  have a0 := A p (by omega) (by omega)
  unfold CP
  rw [a0.2.2.1]
  exact ⟨c1, c2, c3, c4, c5, c6.ag (A.sub (by omega) (by omega))⟩
theorem CX.ag {h h' : MHp} {p : Nat} {t : Nat → Option (Int64 × Int64)} (A : Ag p (p + 7) h h') (C : CX h p t) : CX h' p t := by
  unfold CX
  rw [(A (p + 5) (by omega) (by omega)).2.2.2.2.2.2.1, (A (p + 6) (by omega) (by omega)).2.2.2.2.2.2.1]
  exact C
theorem CR.sc {c : Nat} {h h' : MHp} {A : AS} (W : WA A) (S : Sc c h h') (C : CR c h A) : CR c h' A := by
  obtain ⟨⟨b, s, x1, x2, x3, x4, x5, x6⟩, y, z, w1, w2, w3, w4⟩ := C
  have S0 := S
  obtain ⟨a1, a2, a3, a4, a5, a6, a7⟩ := S
  have g : ∀ k : Nat, 119 ≤ k + 119 ∧ k < 9 → Ag (c + 120 + 7 * k) (c + 120 + 7 * k + 7) h h' := fun k hk => S0.ag (fun a x y => ⟨by omega, fun j hj => by have := scr_p hj; omega⟩)
  have gb : Ag (c + b) (c + b + 53) h h' := S0.ag (fun a x y => ⟨by omega, fun j hj => by have := scr_p hj; omega⟩)
  refine ⟨⟨b, s, ?_, x2, by rw [a3]; exact x3, by rw [a3]; exact x4, x5.ag gb W.1.2.1, fun f hf => ?_⟩, ?_, ?_, ?_, ?_, ?_, ?_⟩
  · obtain ⟨l1, l2, l3⟩ := x1
    exact ⟨by rw [a1, a2]; exact l1, by rw [a3]; exact l2, by rw [a4]; exact l3⟩
  · rw [(gb (c + b + 1) (by omega) (by omega)).2.2.2.2.2.2.1]; exact x6 f hf
  · have e := fun a d => (S0.cell (a := a) d).1
    have e0 := e 0 (by decide)
    simp only [Nat.add_zero] at e0
    unfold CR1
    rw [e0, e 55 (by decide), e 56 (by decide), e 185 (by decide), a6]
    exact y
  · have e := fun a d => (S0.cell (a := a) d).2
    unfold CR2
    rw [e 184 (by decide), e 1 (by decide), e 110 (by decide), e 111 (by decide), e 112 (by decide), e 113 (by decide), e 114 (by decide), e 115 (by decide), e 199 (by decide)]
    exact z
  · rw [(S0.cell (a := 116) (by decide)).2, (S0.cell (a := 117) (by decide)).2]; exact w1
  · rw [(S0.cell (a := 195) (by decide)).2]; exact w2
  · rw [(S0.cell (a := 206) (by decide)).1, (S0.cell (a := 207) (by decide)).2]; exact w3
  · intro k hk
    have hk8 := W.2.2.1
    exact ⟨(w4 k hk).1.ag (g k (by omega)), (w4 k hk).2.ag (g k (by omega))⟩

/-! the reference's state -/
def un2 (x : Int32) : Int32 := if x = -2 then -1 else x
def RR1 (m : Nat) (h : MHp) (A : AS) : Prop := hI h m 10 = Int32.ofNat (aN A 0) ∧ hI h m 7 = Int32.ofNat (aN A 1) ∧ hI h m 18 = Int32.ofNat (aN A 2) ∧ hI h m 49 = Int32.ofNat (aN A 3) ∧ hI h m 1 = aS A 0 ∧ hI h m 3 = aS A 1 ∧ hI h m 2 = (if aS A 0 = 4 then aS A 2 else -1) ∧ hI h m 19 = aS A 3 ∧ hI h m 32 = aS A 4 ∧ hI h m 34 = aS A 5 ∧ hI h m 37 = aS A 6 ∧ hI h m 38 = aS A 7 ∧ hI h m 39 = aS A 8 ∧ hI h m 40 = aS A 9
def RR2 (m : Nat) (h : MHp) (A : AS) : Prop := hAI h (m + 3) = aA A 0 ∧ hAI h (m + 4) = aA A 6 ∧ hAI h (m + 5) = aA A 7 ∧ hAI h (m + 6) = aA A 8 ∧ hAI h (m + 7) = aA A 1 ∧ (∀ r : Nat, r < aN A 2 → hAI h (m + 8) r = un2 (aA A 2 r) ∧ hAI h (m + 9) r = un2 (aA A 3 r) ∧ hAI h (m + 11) r = un2 (aA A 4 r)) ∧ hAI h (m + 10) = aA A 9 ∧ hAI h (m + 12) = aA A 5 ∧ hAI h (m + 18) = aA A 11
def RR3 (m : Nat) (h : MHp) (A : AS) : Prop := (aS A 5 ≠ -1 → ∀ v : Nat, v < 3 → hAI h (m + 17) v = aA A 10 v) ∧ (∀ k : Nat, k < aN A 3 → hAI h (m + 24) k = aA A 12 k) ∧ ∀ k : Nat, k < aN A 1 → ∃ p : Nat, hAR h (m + 1) k = some p ∧ RP (m + 26) h p (aP A k) ∧ RX h p (aT A k) ∧ ∀ j q : Nat, j < aN A 1 → j ≠ k → hAR h (m + 1) j = some q → p + 4 ≤ q ∨ q + 4 ≤ p
def RR0 (m : Nat) (h : MHp) (B : Bk) : Prop := QL m h ∧ m + 26 ≤ hS h ∧ (bF B = 0 → hR h m 4 = none) ∧ (0 < bF B → ∃ b : Nat, hR h m 4 = some b ∧ RB (m + 26) h b B)
def RR (m : Nat) (h : MHp) (A : AS) : Prop := RR0 m h (aB A) ∧ RR1 m h A ∧ RR2 m h A ∧ RR3 m h A
/-! what a call writes down and forgets -/
def rsc (k : Nat) : Bool := decide ((13 ≤ k ∧ k ≤ 16) ∨ (19 ≤ k ∧ k ≤ 23))
def rsI (j : Nat) : Bool := decide (j = 0 ∨ (11 ≤ j ∧ j ≤ 17) ∨ j = 41 ∨ j = 45 ∨ j = 46)
def Rs (m : Nat) (h h' : MHp) : Prop := hK h' = hK h ∧ hN h' = hN h ∧ hR h' = hR h ∧ hAR h' = hAR h ∧ hS h' = hS h ∧ (∀ j : Nat, rsI j = false → hI h' m j = hI h m j) ∧ ∀ a : Nat, (∀ k : Nat, rsc k = true → a ≠ m + k) → (a ≠ m → hI h' a = hI h a ∧ hL h' a = hL h a) ∧ hAI h' a = hAI h a ∧ hAL h' a = hAL h a
theorem Rs.rf {m : Nat} {h : MHp} : Rs m h h := ⟨rfl, rfl, rfl, rfl, rfl, fun _ _ => rfl, fun _ _ => ⟨fun _ => ⟨rfl, rfl⟩, rfl, rfl⟩⟩
theorem Rs.tr {m : Nat} {h h1 h2 : MHp} (A : Rs m h h1) (B : Rs m h1 h2) : Rs m h h2 := by
  obtain ⟨a1, a2, a3, a4, a5, a6, a7⟩ := A
  obtain ⟨b1, b2, b3, b4, b5, b6, b7⟩ := B
  refine ⟨b1.trans a1, b2.trans a2, b3.trans a3, b4.trans a4, b5.trans a5, fun j hj => (b6 j hj).trans (a6 j hj), fun a ha => ?_⟩
  obtain ⟨x1, x2, x3⟩ := a7 a ha
  obtain ⟨y1, y2, y3⟩ := b7 a ha
  exact ⟨fun h => ⟨(y1 h).1.trans (x1 h).1, (y1 h).2.trans (x1 h).2⟩, y2.trans x2, y3.trans x3⟩
theorem Rs.AI {m : Nat} {h : MHp} (k : Nat) (g : Nat → Int32) (hk : rsc k = true) : Rs m h (sAI h (m + k) g) :=
  ⟨rfl, rfl, rfl, rfl, rfl, fun _ _ => rfl, fun a ha => ⟨fun _ => ⟨rfl, rfl⟩, va_ne _ _ (ha k hk), rfl⟩⟩
theorem Rs.I {m : Nat} {h : MHp} (j : Nat) (v : Int32) (hj : rsI j = true) : Rs m h (sI h m j v) :=
  ⟨rfl, rfl, rfl, rfl, rfl, fun i hi => (by rw [e_sI, if_neg]; rintro ⟨-, rfl⟩; rw [hj] at hi; cases hi), fun a ha => ⟨fun e => ⟨up2_ne _ _ _ e, rfl⟩, rfl, rfl⟩⟩
theorem Rs.L {m : Nat} {h : MHp} (j : Nat) (v : Int64) : Rs m h (sL h m j v) :=
  ⟨rfl, rfl, rfl, rfl, rfl, fun _ _ => rfl, fun a ha => ⟨fun e => ⟨rfl, up2_ne _ _ _ e⟩, rfl, rfl⟩⟩
theorem rsc_p {k : Nat} (h : rsc k = true) : 13 ≤ k ∧ k ≤ 23 ∧ k ≠ 17 ∧ k ≠ 18 := by
  simp only [rsc, decide_eq_true_eq] at h
  omega
theorem Rs.ag {m lo hi : Nat} {h h' : MHp} (S : Rs m h h') (d : ∀ a : Nat, lo ≤ a → a < hi → a ≠ m ∧ ∀ k : Nat, rsc k = true → a ≠ m + k) : Ag lo hi h h' := by
  intro a x y
  obtain ⟨a1, a2, a3, a4, a5, a6, a7⟩ := S
  obtain ⟨d1, d2⟩ := d a x y
  obtain ⟨z1, z2, z3⟩ := a7 a d2
  exact ⟨by rw [a1], by rw [a2], (z1 d1).1, (z1 d1).2, by rw [a3], z2, z3, by rw [a4]⟩
theorem Rs.out {m lo hi : Nat} {h h' : MHp} (S : Rs m h h') (d : hi ≤ m ∨ m + 26 ≤ lo) : Ag lo hi h h' := S.ag (fun a x y => ⟨by omega, fun k hk => by have := rsc_p hk; omega⟩)
theorem Rs.cell {m : Nat} {h h' : MHp} (S : Rs m h h') {a : Nat} (d : rsc a = false) : hAI h' (m + a) = hAI h (m + a) := by
  obtain ⟨a1, a2, a3, a4, a5, a6, a7⟩ := S
  exact (a7 (m + a) (fun k hk e => by rw [show k = a by omega] at hk; rw [hk] at d; cases d)).2.1
theorem RT.ag {h h' : MHp} {t : Nat} {T : Ts} (A : Ag t (t + 5) h h') (C : RT h t T) : RT h' t T := by
  obtain ⟨i, c1, c2⟩ := C
  obtain ⟨a1, a2, a3, a4, a5, a6, a7, a8⟩ := A t (by omega) (by omega)
  obtain ⟨b1, b2, b3, b4, b5, b6, b7, b8⟩ := A (t + 1) (by omega) (by omega)
  obtain ⟨d1, d2, d3, d4, d5, d6, d7, d8⟩ := A (t + 2) (by omega) (by omega)
  obtain ⟨f1, f2, f3, f4, f5, f6, f7, f8⟩ := A (t + 3) (by omega) (by omega)
  obtain ⟨g1, g2, g3, g4, g5, g6, g7, g8⟩ := A (t + 4) (by omega) (by omega)
  unfold RT RIT
  rw [a1, a3, a5, b1, b2, b6, d1, d2, d6, f1, f2, f6, g1, g2, g6]
  exact ⟨i, c1, c2⟩
theorem RB.ag {lo : Nat} {h h' : MHp} {b : Nat} {B : Bk} (A : Ag lo (hS h) h h') (S : hS h ≤ hS h') (C : RB lo h b B) : RB lo h' b B := by
  obtain ⟨i, c1, c2, c3, ⟨c4, c5⟩, c6⟩ := C
  obtain ⟨a1, a2, a3, a4, a5, a6, a7, a8⟩ := A b (by omega) (by omega)
  obtain ⟨b1, b2, b3, b4, b5, b6, b7, b8⟩ := A (b + 1) (by omega) (by omega)
  obtain ⟨d1, d2, d3, d4, d5, d6, d7, d8⟩ := A (b + 2) (by omega) (by omega)
  obtain ⟨f1, f2, f3, f4, f5, f6, f7, f8⟩ := A (b + 3) (by omega) (by omega)
  obtain ⟨g1, g2, g3, g4, g5, g6, g7, g8⟩ := A (b + 4) (by omega) (by omega)
  refine ⟨?_, ?_, ?_, ?_, ⟨c4, by omega⟩, fun k hk => ?_⟩
  · unfold RIB
    rw [a1, a5, b1, b2, d1, d2, f1, f2, g1, g2]
    exact i
  · rw [a3]; exact c1
  · rw [a3]; exact c2
  · rw [b7, d6, f6]; exact c3
  · obtain ⟨t, t1, t2, t3, t4⟩ := c6 k hk
    exact ⟨t, by rw [g8]; exact t1, t2, by omega, t4.ag (A.sub (by omega) (by omega))⟩
theorem RP.ag {lo : Nat} {h h' : MHp} {p : Nat} {P : Pl} (A : Ag lo (hS h) h h') (S : hS h ≤ hS h') (C : RP lo h p P) : RP lo h' p P := by
  obtain ⟨i, c1, c2, c3, ⟨c4, c5⟩, c6⟩ := C
  obtain ⟨a1, a2, a3, a4, a5, a6, a7, a8⟩ := A p (by omega) (by omega)
  obtain ⟨b1, b2, b3, b4, b5, b6, b7, b8⟩ := A (p + 1) (by omega) (by omega)
  obtain ⟨d1, d2, d3, d4, d5, d6, d7, d8⟩ := A (p + 2) (by omega) (by omega)
  obtain ⟨f1, f2, f3, f4, f5, f6, f7, f8⟩ := A (p + 3) (by omega) (by omega)
  refine ⟨?_, by rw [a3]; exact c1, by rw [a3]; exact c2, by rw [a3]; exact c3, ⟨c4, by omega⟩, ?_⟩
  · unfold RIP
    rw [a1, a5, b1, b2, d1, d2, f1, f2]
    exact i
  · rw [a5]
    rcases c6 with h1 | ⟨t, t1, t2, t3, t4⟩
    · exact Or.inl h1
    · exact Or.inr ⟨t, t1, t2, by omega, t4.ag (A.sub (by omega) (by omega))⟩
theorem RX.ag {h h' : MHp} {p : Nat} {t : Nat → Option (Int64 × Int64)} (A : Ag p (p + 4) h h') (C : RX h p t) : RX h' p t := by
  unfold RX
  rw [(A (p + 1) (by omega) (by omega)).2.2.2.2.2.1, (A (p + 2) (by omega) (by omega)).2.2.2.2.2.2.1, (A (p + 3) (by omega) (by omega)).2.2.2.2.2.2.1]
  exact C
theorem RR0.ag {m : Nat} {h h' : MHp} {B : Bk} (h1 : Ag (m + 26) (hS h) h h') (S : hS h ≤ hS h') (L : QL m h') (h2 : hR h' m 4 = hR h m 4) (C : RR0 m h B) : RR0 m h' B := by
  obtain ⟨c1, c2, c3, c4⟩ := C
  refine ⟨L, by omega, by rw [h2]; exact c3, fun hp => ?_⟩
  obtain ⟨b, b1, b2⟩ := c4 hp
  exact ⟨b, by rw [h2]; exact b1, b2.ag h1 S⟩
theorem Rs.QL {m : Nat} {h h' : MHp} (S : Rs m h h') (L : QL m h) : QL m h' := by
  obtain ⟨a1, a2, a3, a4, -⟩ := S
  obtain ⟨l1, l2⟩ := L
  exact ⟨by rw [a1, a2]; exact l1, by rw [a3]; exact l2⟩
theorem RR.sc {m : Nat} {h h' : MHp} {A : AS} (S : Rs m h h') (C : RR m h A) : RR m h' A := by
  obtain ⟨x, y, z, w1, w2, w3⟩ := C
  have S0 := S
  obtain ⟨a1, a2, a3, a4, a5, a6, a7⟩ := S
  have g : Ag (m + 26) (hS h) h h' := S0.out (Or.inr (by omega))
  refine ⟨x.ag g (by omega) (S0.QL x.1) (by rw [a3]), ?_, ?_, ?_, ?_, fun k hk => ?_⟩
  · unfold RR1
    rw [a6 10 (by decide), a6 7 (by decide), a6 18 (by decide), a6 49 (by decide), a6 1 (by decide), a6 3 (by decide), a6 2 (by decide), a6 19 (by decide), a6 32 (by decide), a6 34 (by decide), a6 37 (by decide), a6 38 (by decide), a6 39 (by decide), a6 40 (by decide)]
    exact y
  · have e := fun a d => S0.cell (a := a) d
    unfold RR2
    rw [e 3 (by decide), e 4 (by decide), e 5 (by decide), e 6 (by decide), e 7 (by decide), e 8 (by decide), e 9 (by decide), e 10 (by decide), e 11 (by decide), e 12 (by decide), e 18 (by decide)]
    exact z
  · rw [S0.cell (a := 17) (by decide)]; exact w1
  · rw [S0.cell (a := 24) (by decide)]; exact w2
  · obtain ⟨p, p1, p2, p3, p4⟩ := w3 k hk
    obtain ⟨-, -, -, -, ⟨p5, p6⟩, -⟩ := id p2
    exact ⟨p, by rw [a4]; exact p1, p2.ag g (by omega), p3.ag (g.sub (by omega) (by omega)), by rw [a4]; exact p4⟩

/-! noise -/
def tlA (A : AS) (k cl : Nat) (x : Int64 × Int64) : AS := mkA (aN A) (aS A) (aA A) (aB A) (aP A) (fun k' j => if k' = k ∧ j = cl then some x else aT A k' j)
def nz1 (A : AS) (n : Nat) (b : Int32) : AS := setN (setS (setA A 12 (fun k => aA A 12 (k + 1))) 9 b) 3 n
theorem tb_tb (A : AS) (s t : Int32) : tb (tb A s) t = tb A t := by
  unfold tb setS
  show mkA _ _ _ _ _ _ = mkA _ _ _ _ _ _
  have e : (fun i => if i = 0 then t else aS (mkA (aN A) (fun i => if i = 0 then s else aS A i) (aA A) (aB A) (aP A) (aT A)) i) = (fun i => if i = 0 then t else aS A i) := by
    funext i
    by_cases q : i = 0
    · rw [if_pos q, if_pos q]
    · rw [if_neg q, if_neg q]
      show (if i = 0 then s else aS A i) = aS A i
      rw [if_neg q]
  rw [e]
  rfl
theorem WA.nz1 {A : AS} (W : WA A) {n : Nat} {b : Int32} (hn : n + 1 = aN A 3) (hb : 0 ≤ b) (hb2 : b ≤ 1000) : WA (nz1 A n b) := by
  obtain ⟨v1, v2, v3, v4, v5, v6, v7, v8, v9, v10, v11, v12, v13, v14, v15, v16, v17, v18, v19, v20⟩ := W
  exact ⟨v1, v2, v3, v4, by show n ≤ 100; omega, v6, fun h0 => by have := (v7 h0).2.2.1; omega, v8, v9, v10, v11, v12, v13, v14, v15, v16, v17, hb, hb2, v20⟩
theorem WA.setT {A : AS} (W : WA A) {k cl : Nat} {x : Int64 × Int64} : WA (tlA A k cl x) := W

theorem CR.nz1 {c : Nat} {h : MHp} {A : AS} (W : WA A) (C : CR c h A) (n : Nat) (b : Int32) (hd : Nat) (hn : n + 1 = aN A 3) (hd1 : hd < 100) (hd3 : ∀ k : Nat, k < aN A 3 → hAI h (c + 207) ((hd + k) % 100) = aA A 12 k) : CR c (sI (sI (sAI h (c + 184) (va_up (hAI h (c + 184)) 3 b)) (c + 206) 2 (Int32.ofNat ((hd + 1) % 100))) (c + 206) 0 (Int32.ofNat n)) (nz1 A n b) := by
  have h8 := W.2.2.1
  have hw := W.1.2.1
  obtain ⟨⟨b9, s9, x1, x2, x3, x4, x5, x6⟩, ⟨y1, y2, y3, y4, y5, y6, y7, y8, y9⟩, ⟨z1, z2, z3, z4, z5, z6, z7, z8, z9, z10, z11, z12⟩, w1, w2, w3, w4⟩ := C
  have gI : ∀ a j : Nat, (a ≠ (c + 206) ∨ j ≠ 2) ∧ (a ≠ (c + 206) ∨ j ≠ 0) → hI (sI (sI (sAI h (c + 184) (va_up (hAI h (c + 184)) 3 b)) (c + 206) 2 (Int32.ofNat ((hd + 1) % 100))) (c + 206) 0 (Int32.ofNat n)) a j = hI h a j := by
    intro a j d
    rw [e_sI, if_neg (by omega)]
    rw [e_sI, if_neg (by omega)]
    rw [e_I_sAI]
  have ga : ∀ a : Nat, a ≠ (c + 184) → hAI (sI (sI (sAI h (c + 184) (va_up (hAI h (c + 184)) 3 b)) (c + 206) 2 (Int32.ofNat ((hd + 1) % 100))) (c + 206) 0 (Int32.ofNat n)) a = hAI h a := by
    intro a d
    rw [e_AI_sI]
    rw [e_AI_sI]
    rw [e_sAI, if_neg (by omega)]
  have ag9 : ∀ lo hi : Nat, ((c + 184) < lo ∨ hi ≤ (c + 184)) ∧ ((c + 206) < lo ∨ hi ≤ (c + 206)) → Ag lo hi h (sI (sI (sAI h (c + 184) (va_up (hAI h (c + 184)) 3 b)) (c + 206) 2 (Int32.ofNat ((hd + 1) % 100))) (c + 206) 0 (Int32.ofNat n)) := fun lo hi d => ((Ag.AI _ _ (by omega)).tr (Ag.I _ _ _ (by omega))).tr (Ag.I _ _ _ (by omega))
  refine ⟨⟨b9, s9, x1, x2, x3, x4, x5.ag (ag9 _ _ (by omega)) hw, x6⟩, ⟨(by rw [gI _ _ (by omega)]; exact y1), (by rw [gI _ _ (by omega)]; exact y2), (by rw [gI _ _ (by omega)]; exact y3), (by rw [gI _ _ (by omega)]; exact y4), (by rw [gI _ _ (by omega)]; exact y5), (by rw [gI _ _ (by omega)]; exact y6), (by rw [gI _ _ (by omega)]; exact y7), (by rw [gI _ _ (by omega)]; exact y8), (by rw [gI _ _ (by omega)]; exact y9)⟩, ⟨(by rw [e_AI_sI, e_AI_sI, e_sAI, if_pos rfl, e_up, if_neg (by decide)]; exact z1), (by rw [e_AI_sI, e_AI_sI, e_sAI, if_pos rfl, e_up, if_neg (by decide)]; exact z2), (by rw [e_AI_sI, e_AI_sI, e_sAI, if_pos rfl, e_up, if_neg (by decide)]; exact z3), (by rw [e_AI_sI, e_AI_sI, e_sAI, if_pos rfl, e_up, if_pos rfl]; rfl), (by rw [ga _ (by omega)]; exact z5), (by rw [ga _ (by omega)]; exact z6), (by rw [ga _ (by omega)]; exact z7), (by rw [ga _ (by omega)]; exact z8), (by rw [ga _ (by omega)]; exact z9), (by rw [ga _ (by omega)]; exact z10), (by rw [ga _ (by omega)]; exact z11), (by rw [ga _ (by omega)]; exact z12)⟩, (by rw [ga _ (by omega), ga _ (by omega)]; exact w1), (by rw [ga _ (by omega)]; exact w2), ?_, fun k9 hk => (fun (hk2 : k9 < aN A 1) => ⟨(w4 k9 hk2).1.ag (ag9 _ _ (by omega)), (w4 k9 hk2).2.ag (ag9 _ _ (by omega))⟩) hk⟩
  · refine ⟨(hd + 1) % 100, Nat.mod_lt _ (by omega), by rw [e_sI, if_pos ⟨rfl, rfl⟩]; rfl, by rw [e_sI, if_neg (by omega), e_sI, if_pos ⟨rfl, rfl⟩], fun k hk => ?_⟩
    have hk2 : k < n := hk
    rw [ga _ (by omega)]
    show hAI h (c + 207) (((hd + 1) % 100 + k) % 100) = aA A 12 (k + 1)
    rw [← hd3 (k + 1) (by omega)]
    congr 1
    omega

theorem CR.setT {c k cl : Nat} {x : Int64 × Int64} {h : MHp} {A : AS} (W : WA A) (C : CR c h A) (hk : k < aN A 1) (hx : x.2 ≠ -1) : CR c (sAL (sAL h (c + 120 + 7 * k + 5) (va_up (hAL h (c + 120 + 7 * k + 5)) cl x.1)) (c + 120 + 7 * k + 6) (va_up (hAL h (c + 120 + 7 * k + 6)) cl x.2)) (tlA A k cl x) := by
  have h8 := W.2.2.1
  obtain ⟨⟨b9, s9, x1, x2, x3, x4, x5, x6⟩, y, z, w1, w2, w3, w4⟩ := C
  have ag9 : ∀ lo hi : Nat, (c + 120 + 7 * k + 5 < lo ∨ hi ≤ c + 120 + 7 * k + 5) ∧ (c + 120 + 7 * k + 6 < lo ∨ hi ≤ c + 120 + 7 * k + 6) → Ag lo hi h (sAL (sAL h (c + 120 + 7 * k + 5) (va_up (hAL h (c + 120 + 7 * k + 5)) cl x.1)) (c + 120 + 7 * k + 6) (va_up (hAL h (c + 120 + 7 * k + 6)) cl x.2)) := fun lo hi d => (Ag.AL _ _ (by omega)).tr (Ag.AL _ _ (by omega))
  refine ⟨⟨b9, s9, x1, x2, x3, x4, x5.ag (ag9 _ _ (by omega)) W.1.2.1, fun f hf => ?_⟩, y, z, w1, w2, w3, fun k9 hk9 => ?_⟩
  · rw [e_sAL, if_neg (by omega), e_sAL, if_neg (by omega)]; exact x6 f hf
  · have hk2 : k9 < aN A 1 := hk9
    obtain ⟨a1, a2⟩ := w4 k9 hk2
    by_cases q : k9 = k
    · subst q
      refine ⟨?_, fun j hj => ?_⟩
      · obtain ⟨c1, c2, c3, c4, c5, c6⟩ := a1
        exact ⟨c1, c2, c3, c4, c5, c6.ag (ag9 _ _ (by omega))⟩
      · have a3 := a2 j hj
        show (match (if k9 = k9 ∧ j = cl then some x else aT A k9 j) with | none => _ | some x => _)
        by_cases qj : j = cl
        · subst qj
          rw [if_pos ⟨rfl, rfl⟩]
          refine ⟨?_, ?_, hx⟩
          · rw [e_sAL, if_neg (by omega), e_sAL, if_pos rfl, e_up, if_pos rfl]
          · rw [e_sAL, if_pos rfl, e_up, if_pos rfl]
        · rw [if_neg (fun e => qj e.2)]
          rw [e_sAL, if_pos rfl, e_up, if_neg qj]
          rw [e_sAL, if_neg (by omega), e_sAL, if_pos rfl, e_up, if_neg qj]
          exact a3
    · refine ⟨a1.ag (ag9 _ _ (by omega)), ?_⟩
      have e : aT (tlA A k cl x) k9 = aT A k9 := by
        funext j
        show (if k9 = k ∧ j = cl then some x else aT A k9 j) = aT A k9 j
        rw [if_neg (fun e => q e.1)]
      rw [e]
      exact a2.ag (ag9 _ _ (by omega))

theorem RR.nz1 {m : Nat} {h : MHp} {A : AS} (C : RR m h A) (n : Nat) (b : Int32) (g : Nat → Int32) (hn : n + 1 = aN A 3) (hg : ∀ k : Nat, k < n → g k = hAI h (m + 24) (k + 1)) : RR m (sAI (sI (sI h m 49 (Int32.ofNat n)) m 40 b) (m + 24) g) (nz1 A n b) := by
  obtain ⟨x, ⟨y1, y2, y3, y4, y5, y6, y7, y8, y9, y10, y11, y12, y13, y14⟩, ⟨z1, z2, z3, z4, z5, z6, z7, z8, z9⟩, w1, w2, w3⟩ := C
  have gI : ∀ a j : Nat, (a ≠ m ∨ j ≠ 49) ∧ (a ≠ m ∨ j ≠ 40) → hI (sAI (sI (sI h m 49 (Int32.ofNat n)) m 40 b) (m + 24) g) a j = hI h a j := by
    intro a j d
    rw [e_I_sAI]
    rw [e_sI, if_neg (by omega)]
    rw [e_sI, if_neg (by omega)]
  have ga : ∀ a : Nat, a ≠ (m + 24) → hAI (sAI (sI (sI h m 49 (Int32.ofNat n)) m 40 b) (m + 24) g) a = hAI h a := by
    intro a d
    rw [e_sAI, if_neg (by omega)]
    rw [e_AI_sI]
    rw [e_AI_sI]
  have ag9 : ∀ lo hi : Nat, (m < lo ∨ hi ≤ m) ∧ ((m + 24) < lo ∨ hi ≤ (m + 24)) → Ag lo hi h (sAI (sI (sI h m 49 (Int32.ofNat n)) m 40 b) (m + 24) g) := fun lo hi d => ((Ag.I _ _ _ (by omega)).tr (Ag.I _ _ _ (by omega))).tr (Ag.AI _ _ (by omega))
  refine ⟨x.ag (ag9 _ _ (by omega)) (Nat.le_refl _) x.1 rfl, ⟨(by rw [gI _ _ (by omega)]; exact y1), (by rw [gI _ _ (by omega)]; exact y2), (by rw [gI _ _ (by omega)]; exact y3), (by rw [e_I_sAI, e_sI, if_neg (by omega), e_sI, if_pos ⟨rfl, rfl⟩]; rfl), (by rw [gI _ _ (by omega)]; exact y5), (by rw [gI _ _ (by omega)]; exact y6), (by rw [gI _ _ (by omega)]; exact y7), (by rw [gI _ _ (by omega)]; exact y8), (by rw [gI _ _ (by omega)]; exact y9), (by rw [gI _ _ (by omega)]; exact y10), (by rw [gI _ _ (by omega)]; exact y11), (by rw [gI _ _ (by omega)]; exact y12), (by rw [gI _ _ (by omega)]; exact y13), (by rw [e_I_sAI, e_sI, if_pos ⟨rfl, rfl⟩]; rfl)⟩, ⟨(by rw [ga _ (by omega)]; exact z1), (by rw [ga _ (by omega)]; exact z2), (by rw [ga _ (by omega)]; exact z3), (by rw [ga _ (by omega)]; exact z4), (by rw [ga _ (by omega)]; exact z5), (by rw [ga _ (by omega), ga _ (by omega), ga _ (by omega)]; exact z6), (by rw [ga _ (by omega)]; exact z7), (by rw [ga _ (by omega)]; exact z8), (by rw [ga _ (by omega)]; exact z9)⟩, (by rw [ga _ (by omega)]; exact w1), ?_, ?_⟩
  · intro k hk
    have hk2 : k < n := hk
    rw [e_sAI, if_pos rfl, hg k hk2]
    exact w2 (k + 1) (by omega)
  · intro k hk
    obtain ⟨p, p1, p2, p3, p4⟩ := w3 k hk
    obtain ⟨-, -, -, -, ⟨p5, p6⟩, -⟩ := id p2
    exact ⟨p, p1, p2.ag (ag9 _ _ (by omega)) (Nat.le_refl _), p3.ag (ag9 _ _ (by omega)), p4⟩

/-- a table's own rows of what was told are no other's -/
def Tw (p : Nat) (h h' : MHp) : Prop := hK h' = hK h ∧ hN h' = hN h ∧ hR h' = hR h ∧ hAR h' = hAR h ∧ hS h' = hS h ∧ hI h' = hI h ∧ (∀ a : Nat, a ≠ p + 1 → hAI h' a = hAI h a) ∧ ∀ a : Nat, a ≠ p + 2 → a ≠ p + 3 → hAL h' a = hAL h a
theorem RT.tw {p t : Nat} {h h' : MHp} {T : Ts} (I : RIP h p) (S : Tw p h h') (C : RT h t T) : RT h' t T := by
  obtain ⟨a1, a2, a3, a4, a5, a6, a7, a8⟩ := S
  obtain ⟨i1, i2, i3, i4, i5, i6, i7, i8, i9, i10⟩ := I
  obtain ⟨j, c1, c2⟩ := C
  obtain ⟨j1, j2, j3, j4, j5, j6, j7, j8, j9, j10, j11, j12, j13⟩ := id j
  have n1 : t + 1 ≠ p + 1 := fun e => by rw [e, i5] at j6; cases j6
  have n2 : t + 2 ≠ p + 1 := fun e => by rw [e, i5] at j7; cases j7
  have n3 : t + 3 ≠ p + 1 := fun e => by rw [e, i5] at j8; cases j8
  have n4 : t + 4 ≠ p + 1 := fun e => by rw [e, i8] at j13; cases j13
  unfold RT RIT
  rw [a1, a2, a3, a6, a7 _ n1, a7 _ n2, a7 _ n3, a7 _ n4]
  exact ⟨j, c1, c2⟩
theorem RB.tw {p b lo : Nat} {h h' : MHp} {B : Bk} (I : RIP h p) (S : Tw p h h') (C : RB lo h b B) : RB lo h' b B := by
  have S0 := S
  obtain ⟨a1, a2, a3, a4, a5, a6, a7, a8⟩ := S
  obtain ⟨i1, i2, i3, i4, i5, i6, i7, i8, i9, i10⟩ := id I
  obtain ⟨j, c1, c2, c3, c4, c5⟩ := C
  obtain ⟨j1, j2, j3, j4, j5, j6, j7, j8, j9, j10, j11, j12, j13⟩ := id j
  have n1 : b + 2 ≠ p + 1 := fun e => by rw [e, i5] at j7; cases j7
  have n2 : b + 3 ≠ p + 1 := fun e => by rw [e, i5] at j8; cases j8
  have n3 : b + 1 ≠ p + 2 := fun e => by rw [e, i9] at j10; cases j10
  have n4 : b + 1 ≠ p + 3 := fun e => by rw [e, i10] at j10; cases j10
  refine ⟨by unfold RIB; rw [a1, a2, a3]; exact j, by rw [a6]; exact c1, by rw [a6]; exact c2, by rw [a7 _ n1, a7 _ n2, a8 _ n3 n4]; exact c3, by rw [a5]; exact c4, fun k hk => ?_⟩
  obtain ⟨t, t1, t2, t3, t4⟩ := c5 k hk
  exact ⟨t, by rw [a4]; exact t1, t2, by rw [a5]; exact t3, t4.tw I S0⟩
theorem RP.tw {p p' lo : Nat} {h h' : MHp} {P : Pl} (I : RIP h p) (S : Tw p h h') (C : RP lo h p' P) : RP lo h' p' P := by
  have S0 := S
  obtain ⟨a1, a2, a3, a4, a5, a6, a7, a8⟩ := S
  obtain ⟨j, c1, c2, c3, c4, c5⟩ := C
  refine ⟨by unfold RIP; rw [a1, a2, a3]; exact j, by rw [a6]; exact c1, by rw [a6]; exact c2, by rw [a6]; exact c3, by rw [a5]; exact c4, ?_⟩
  rw [a3]
  rcases c5 with h1 | ⟨t, t1, t2, t3, t4⟩
  · exact Or.inl h1
  · exact Or.inr ⟨t, t1, t2, by rw [a5]; exact t3, t4.tw I S0⟩
theorem RR.setT {m k cl p : Nat} {x : Int64 × Int64} {h : MHp} {A : AS} (C : RR m h A) (hk : k < aN A 1) (hp : hAR h (m + 1) k = some p) : RR m (sAL (sAL (sAI h (p + 1) (va_up (hAI h (p + 1)) cl 1)) (p + 2) (va_up (hAL h (p + 2)) cl x.1)) (p + 3) (va_up (hAL h (p + 3)) cl x.2)) (tlA A k cl x) := by
  obtain ⟨⟨x1, x2, x3, x4⟩, y, ⟨z1, z2, z3, z4, z5, z6, z7, z8, z9⟩, w1, w2, w3⟩ := C
  obtain ⟨p', p1', p2', p3', p4'⟩ := w3 k hk
  rw [hp] at p1'
  cases p1'
  have I := p2'.1
  obtain ⟨-, -, -, -, ⟨p5, p6⟩, -⟩ := id p2'
  have T : Tw p h (sAL (sAL (sAI h (p + 1) (va_up (hAI h (p + 1)) cl 1)) (p + 2) (va_up (hAL h (p + 2)) cl x.1)) (p + 3) (va_up (hAL h (p + 3)) cl x.2)) := by
    refine ⟨rfl, rfl, rfl, rfl, rfl, rfl, fun a ha => va_ne _ _ ha, fun a h1 h2 => ?_⟩
    rw [e_sAL, if_neg h2, e_sAL, if_neg h1, e_AL_sAI]
  have ga := T.2.2.2.2.2.2.1
  refine ⟨⟨x1, x2, x3, fun hp => ?_⟩, y, ⟨by rw [ga _ (by omega)]; exact z1, by rw [ga _ (by omega)]; exact z2, by rw [ga _ (by omega)]; exact z3, by rw [ga _ (by omega)]; exact z4, by rw [ga _ (by omega)]; exact z5, by rw [ga _ (by omega), ga _ (by omega), ga _ (by omega)]; exact z6, by rw [ga _ (by omega)]; exact z7, by rw [ga _ (by omega)]; exact z8, by rw [ga _ (by omega)]; exact z9⟩, by rw [ga _ (by omega)]; exact w1, by rw [ga _ (by omega)]; exact w2, fun k9 hk9 => ?_⟩
  · obtain ⟨b, b1, b2⟩ := x4 hp
    exact ⟨b, b1, b2.tw I T⟩
  · have hk2 : k9 < aN A 1 := hk9
    obtain ⟨q, q1, q2, q3, q4⟩ := w3 k9 hk2
    by_cases e : k9 = k
    · subst e
      rw [hp] at q1
      cases q1
      refine ⟨p, hp, q2.tw I T, fun j hj => ?_, q4⟩
      have a3 := q3 j hj
      show (match (if k9 = k9 ∧ j = cl then some x else aT A k9 j) with | none => _ | some x => _)
      by_cases qj : j = cl
      · subst qj
        rw [if_pos ⟨rfl, rfl⟩]
        refine ⟨?_, ?_, ?_⟩
        · rw [e_AI_sAL, e_AI_sAL, e_sAI, if_pos rfl, e_up, if_pos rfl]
        · rw [e_sAL, if_neg (by omega), e_sAL, if_pos rfl, e_up, if_pos rfl]
        · rw [e_sAL, if_pos rfl, e_up, if_pos rfl]
      · rw [if_neg (fun e => qj e.2)]
        have l1 : hAI (sAL (sAL (sAI h (p + 1) (va_up (hAI h (p + 1)) cl 1)) (p + 2) (va_up (hAL h (p + 2)) cl x.1)) (p + 3) (va_up (hAL h (p + 3)) cl x.2)) (p + 1) j = hAI h (p + 1) j := by rw [e_AI_sAL, e_AI_sAL, e_sAI, if_pos rfl, e_up, if_neg qj]
        have l2 : hAL (sAL (sAL (sAI h (p + 1) (va_up (hAI h (p + 1)) cl 1)) (p + 2) (va_up (hAL h (p + 2)) cl x.1)) (p + 3) (va_up (hAL h (p + 3)) cl x.2)) (p + 2) j = hAL h (p + 2) j := by rw [e_sAL, if_neg (by omega), e_sAL, if_pos rfl, e_up, if_neg qj]
        have l3 : hAL (sAL (sAL (sAI h (p + 1) (va_up (hAI h (p + 1)) cl 1)) (p + 2) (va_up (hAL h (p + 2)) cl x.1)) (p + 3) (va_up (hAL h (p + 3)) cl x.2)) (p + 3) j = hAL h (p + 3) j := by rw [e_sAL, if_pos rfl, e_up, if_neg qj]
        rw [l1, l2, l3]
        exact a3
    · have d := p4' k9 q hk2 e q1
      refine ⟨q, q1, q2.tw I T, ?_, q4⟩
      have e2 : aT (tlA A k cl x) k9 = aT A k9 := by
        funext j
        show (if k9 = k ∧ j = cl then some x else aT A k9 j) = aT A k9 j
        rw [if_neg (fun hh => e hh.1)]
      rw [e2]
      unfold RX
      rw [ga _ (by omega), T.2.2.2.2.2.2.2 _ (by omega) (by omega), T.2.2.2.2.2.2.2 _ (by omega) (by omega)]
      exact q3

/-! calls on the one side leave the other side alone -/
def Oc (c : Nat) (h h' : MHp) : Prop := hS h' = hS h ∧ ∀ lo hi : Nat, hi ≤ c ∨ c + 208 ≤ lo → Ag lo hi h h'
def Om (m : Nat) (h h' : MHp) : Prop := hS h ≤ hS h' ∧ Ag 0 m h h'
theorem Oc.rf {c : Nat} {h : MHp} : Oc c h h := ⟨rfl, fun _ _ _ => Ag.rf⟩
theorem Oc.tr {c : Nat} {h h1 h2 : MHp} (A : Oc c h h1) (B : Oc c h1 h2) : Oc c h h2 := ⟨B.1.trans A.1, fun lo hi d => (A.2 lo hi d).tr (B.2 lo hi d)⟩
theorem Sc.oc {c : Nat} {h h' : MHp} (S : Sc c h h') : Oc c h h' := ⟨S.2.2.2.2.1, fun lo hi d => S.out d⟩
theorem Oc.I {c : Nat} {h : MHp} (k j : Nat) (v : Int32) (hk : k < 208) : Oc c h (sI h (c + k) j v) := ⟨rfl, fun lo hi d => Ag.I _ _ _ (by omega)⟩
theorem Oc.I0 {c : Nat} {h : MHp} (j : Nat) (v : Int32) : Oc c h (sI h c j v) := ⟨rfl, fun lo hi d => Ag.I _ _ _ (by omega)⟩
theorem Oc.AI {c : Nat} {h : MHp} (k : Nat) (g : Nat → Int32) (hk : k < 208) : Oc c h (sAI h (c + k) g) := ⟨rfl, fun lo hi d => Ag.AI _ _ (by omega)⟩
theorem Oc.AL {c : Nat} {h : MHp} (k : Nat) (g : Nat → Int64) (hk : k < 208) : Oc c h (sAL h (c + k) g) := ⟨rfl, fun lo hi d => Ag.AL _ _ (by omega)⟩
theorem Oc.R0 {c : Nat} {h : MHp} (k j : Nat) (v : Option Nat) (hk : k < 208) : Oc c h (sR h (c + k) j v) := ⟨rfl, fun lo hi d => Ag.R _ _ _ (by omega)⟩
theorem Om.rf {m : Nat} {h : MHp} : Om m h h := ⟨Nat.le_refl _, Ag.rf⟩
theorem Om.tr {m : Nat} {h h1 h2 : MHp} (A : Om m h h1) (B : Om m h1 h2) : Om m h h2 := ⟨Nat.le_trans A.1 B.1, A.2.tr B.2⟩
theorem Rs.om {m : Nat} {h h' : MHp} (S : Rs m h h') : Om m h h' := ⟨by rw [S.2.2.2.2.1]; omega, S.out (Or.inl (Nat.le_refl _))⟩
theorem Om.I {m : Nat} {h : MHp} (j : Nat) (v : Int32) : Om m h (sI h m j v) := ⟨Nat.le_refl _, Ag.I _ _ _ (by omega)⟩
theorem Om.AI {m : Nat} {h : MHp} (a : Nat) (g : Nat → Int32) (ha : m ≤ a) : Om m h (sAI h a g) := ⟨Nat.le_refl _, Ag.AI _ _ (by omega)⟩
theorem Om.AL {m : Nat} {h : MHp} (a : Nat) (g : Nat → Int64) (ha : m ≤ a) : Om m h (sAL h a g) := ⟨Nat.le_refl _, Ag.AL _ _ (by omega)⟩
theorem CL.ag {c : Nat} {h h' : MHp} (G : Ag c (c + 208) h h') (L : CL c h) : CL c h' := by
  obtain ⟨l1, l2, l3⟩ := L
  have b2 : ∀ x : Nat × Nat × Nat, x ∈ clR → x.1 < 208 := by decide +kernel
  have b3 : ∀ x : Nat × Nat × Nat, x ∈ clA → x.1 < 208 := by decide +kernel
  refine ⟨fun k hk => ?_, fun x hx => ?_, fun x hx => ?_⟩
  · obtain ⟨a1, a2, -⟩ := G (c + k) (by omega) (by omega)
    rw [a1, a2]; exact l1 k hk
  · have := b2 x hx
    obtain ⟨-, -, -, -, a5, -⟩ := G (c + x.1) (by omega) (by omega)
    rw [a5]; exact l2 x hx
  · have := b3 x hx
    obtain ⟨-, -, -, -, -, -, -, a8⟩ := G (c + x.1) (by omega) (by omega)
    rw [a8]; exact l3 x hx
theorem CR.ag {c : Nat} {h h' : MHp} {A : AS} (W : WA A) (G : Ag c (c + 208) h h') (C : CR c h A) : CR c h' A := by
  obtain ⟨⟨b, s, x1, x2, x3, x4, x5, x6⟩, y, z, w1, w2, w3, w4⟩ := C
  have gi : ∀ k : Nat, k < 208 → hI h' (c + k) = hI h (c + k) := fun k hk => (G (c + k) (by omega) (by omega)).2.2.1
  have ga : ∀ k : Nat, k < 208 → hAI h' (c + k) = hAI h (c + k) := fun k hk => (G (c + k) (by omega) (by omega)).2.2.2.2.2.1
  have gr : ∀ k : Nat, k < 208 → hR h' (c + k) = hR h (c + k) := fun k hk => (G (c + k) (by omega) (by omega)).2.2.2.2.1
  have gi0 := gi 0 (by omega)
  have gr0 := gr 0 (by omega)
  simp only [Nat.add_zero] at gi0 gr0
  refine ⟨⟨b, s, x1.ag G, x2, by rw [gr 56 (by omega)]; exact x3, by rw [gr0]; exact x4, x5.ag (G.sub (by omega) (by omega)) W.1.2.1, fun f hf => ?_⟩, ?_, ?_, ?_, ?_, ?_, fun k hk => ?_⟩
  · rw [(G (c + b + 1) (by omega) (by omega)).2.2.2.2.2.2.1]; exact x6 f hf
  · unfold CR1
    rw [gi0, gi 55 (by omega), gi 56 (by omega), gi 185 (by omega), gi 194 (by omega)]
    exact y
  · unfold CR2
    rw [ga 184 (by omega), ga 1 (by omega), ga 110 (by omega), ga 111 (by omega), ga 112 (by omega), ga 113 (by omega), ga 114 (by omega), ga 115 (by omega), ga 199 (by omega)]
    exact z
  · rw [ga 116 (by omega), ga 117 (by omega)]; exact w1
  · rw [ga 195 (by omega)]; exact w2
  · rw [gi 206 (by omega), ga 207 (by omega)]; exact w3
  · have h8 := W.2.2.1
    exact ⟨(w4 k hk).1.ag (G.sub (by omega) (by omega)), (w4 k hk).2.ag (G.sub (by omega) (by omega))⟩
theorem RR.ag {m : Nat} {h h' : MHp} {A : AS} (G : Ag m (hS h) h h') (S : hS h ≤ hS h') (C : RR m h A) : RR m h' A := by
  obtain ⟨x, y, z, w1, w2, w3⟩ := C
  have h26 := x.2.1
  have gi : hI h' m = hI h m := (G m (by omega) (by omega)).2.2.1
  have gr : hR h' m = hR h m := (G m (by omega) (by omega)).2.2.2.2.1
  have ga : ∀ k : Nat, k < 26 → hAI h' (m + k) = hAI h (m + k) := fun k hk => (G (m + k) (by omega) (by omega)).2.2.2.2.2.1
  have gs : hAR h' (m + 1) = hAR h (m + 1) := (G (m + 1) (by omega) (by omega)).2.2.2.2.2.2.2
  have L : QL m h' := by
    obtain ⟨l1, l2⟩ := x.1
    have b2 : ∀ x : Nat × Nat × Nat, x ∈ rlR → x.1 < 26 := by decide +kernel
    refine ⟨fun k hk => ?_, fun y hy => ?_⟩
    · obtain ⟨a1, a2, -⟩ := G (m + k) (by omega) (by omega)
      rw [a1, a2]; exact l1 k hk
    · have := b2 y hy
      obtain ⟨-, -, -, -, a5, -⟩ := G (m + y.1) (by omega) (by omega)
      rw [a5]; exact l2 y hy
  refine ⟨x.ag (G.sub (by omega) (Nat.le_refl _)) S L (by rw [gr]), ?_, ?_, ?_, ?_, fun k hk => ?_⟩
  · unfold RR1; rw [gi]; exact y
  · unfold RR2
    rw [ga 3 (by omega), ga 4 (by omega), ga 5 (by omega), ga 6 (by omega), ga 7 (by omega), ga 8 (by omega), ga 9 (by omega), ga 10 (by omega), ga 11 (by omega), ga 12 (by omega), ga 18 (by omega)]
    exact z
  · rw [ga 17 (by omega)]; exact w1
  · rw [ga 24 (by omega)]; exact w2
  · obtain ⟨p, p1, p2, p3, p4⟩ := w3 k hk
    obtain ⟨-, -, -, -, ⟨p5, p6⟩, -⟩ := id p2
    exact ⟨p, by rw [gs]; exact p1, p2.ag (G.sub (by omega) (Nat.le_refl _)) S, p3.ag (G.sub (by omega) (by omega)), by rw [gs]; exact p4⟩
/-! the state, changed in one place -/
def setN (A : AS) (j v : Nat) : AS := mkA (fun i => if i = j then v else aN A i) (aS A) (aA A) (aB A) (aP A) (aT A)
def setS (A : AS) (j : Nat) (v : Int32) : AS := mkA (aN A) (fun i => if i = j then v else aS A i) (aA A) (aB A) (aP A) (aT A)
def setA (A : AS) (j : Nat) (g : Nat → Int32) : AS := mkA (aN A) (aS A) (fun i => if i = j then g else aA A i) (aB A) (aP A) (aT A)
def tb (A : AS) (t : Int32) : AS := setS A 0 t
theorem CR.tb {c : Nat} {h : MHp} {A : AS} {t : Int32} (ht : t ≠ 4) (C : CR c h A) : CR c (sI h c 15 t) (tb A t) := by
  obtain ⟨⟨b, s, x1, x2, x3, x4, x5, x6⟩, ⟨y1, y2, y3, y4, y5, y6, y7, y8, y9⟩, z, w1, w2, w3, w4⟩ := C
  have g : ∀ lo hi : Nat, c < lo → Ag lo hi h (sI h c 15 t) := fun lo hi d => Ag.I _ _ _ (Or.inl d)
  have gi : ∀ k : Nat, 0 < k → hI (sI h c 15 t) (c + k) = hI h (c + k) := fun k hk => up2_ne _ _ _ (by omega)
  refine ⟨⟨b, s, x1, x2, x3, x4, ?_, x6⟩, ⟨by rw [e_sI, if_neg (by omega)]; exact y1, by rw [e_sI, if_neg (by omega)]; exact y2, ?_, ?_, ?_, ?_, ?_, ?_, ?_⟩, z, w1, w2, ?_, fun k hk => ?_⟩
  · obtain ⟨q1, q2, q3, q4⟩ := x5
    refine ⟨?_, ?_, q3, fun k hk => (q4 k hk).ag (g _ _ (by omega))⟩
    · rw [gi b (by omega)]; exact q1
    · rw [gi b (by omega)]; exact q2
  · rw [e_sI, if_pos ⟨rfl, rfl⟩]; rfl
  · rw [gi 55 (by omega)]; exact y4
  · intro h4; exact absurd h4 ht
  · rw [gi 56 (by omega)]; exact y6
  · rw [gi 56 (by omega)]; exact y7
  · rw [gi 185 (by omega)]; exact y8
  · rw [gi 194 (by omega)]; exact y9
  · rw [gi 206 (by omega)]; exact w3
  · exact ⟨(w4 k hk).1.ag (g _ _ (by omega)), (w4 k hk).2.ag (g _ _ (by omega))⟩
theorem WA.tb {A : AS} {t : Int32} (W : WA A) : WA (tb A t) := W
def rtb (m : Nat) (h : MHp) (t : Int32) : MHp := sI (sI h m 1 t) m 2 (-1)
theorem RR.tb {m : Nat} {h : MHp} {A : AS} {t : Int32} (ht : t ≠ 4) (C : RR m h A) : RR m (rtb m h t) (tb A t) := by
  obtain ⟨x, ⟨y1, y2, y3, y4, y5, y6, y7, y8, y9, y10, y11, y12, y13, y14⟩, z, w1, w2, w3⟩ := C
  have g : ∀ lo hi : Nat, m < lo → Ag lo hi h (rtb m h t) := fun lo hi d => (Ag.I _ _ _ (Or.inl d)).tr (Ag.I _ _ _ (Or.inl d))
  have gi : ∀ j : Nat, j ≠ 1 → j ≠ 2 → hI (rtb m h t) m j = hI h m j := fun j h1 h2 => by
    unfold rtb
    rw [e_sI, if_neg (by omega), e_sI, if_neg (by omega)]
  refine ⟨x.ag (g _ _ (by omega)) (Nat.le_refl _) x.1 rfl, ⟨?_, ?_, ?_, ?_, ?_, ?_, ?_, ?_, ?_, ?_, ?_, ?_, ?_, ?_⟩, z, w1, w2, fun k hk => ?_⟩
  · rw [gi 10 (by omega) (by omega)]; exact y1
  · rw [gi 7 (by omega) (by omega)]; exact y2
  · rw [gi 18 (by omega) (by omega)]; exact y3
  · rw [gi 49 (by omega) (by omega)]; exact y4
  · unfold rtb; rw [e_sI, if_neg (by omega), e_sI, if_pos ⟨rfl, rfl⟩]; rfl
  · rw [gi 3 (by omega) (by omega)]; exact y6
  · unfold rtb; rw [e_sI, if_pos ⟨rfl, rfl⟩]
    exact (if_neg ht).symm
  · rw [gi 19 (by omega) (by omega)]; exact y8
  · rw [gi 32 (by omega) (by omega)]; exact y9
  · rw [gi 34 (by omega) (by omega)]; exact y10
  · rw [gi 37 (by omega) (by omega)]; exact y11
  · rw [gi 38 (by omega) (by omega)]; exact y12
  · rw [gi 39 (by omega) (by omega)]; exact y13
  · rw [gi 40 (by omega) (by omega)]; exact y14
  · obtain ⟨p, p1, p2, p3, p4⟩ := w3 k hk
    obtain ⟨-, -, -, -, ⟨p5, p6⟩, -⟩ := id p2
    exact ⟨p, p1, p2.ag (g _ _ (by omega)) (Nat.le_refl _), p3.ag (g _ _ (by omega)), p4⟩
theorem Om.tb {m : Nat} {h : MHp} {t : Int32} : Om m h (rtb m h t) := (Om.I 1 t).tr (Om.I 2 _)
theorem q_refused {m : Nat} {h : MHp} (L : QL m h) (t : Int32) : mX16_refused h m t = some (-1, rtb m h t) := by
  simp (disch := omega) only [mX16_refused, qK0 L, e_K_sI, o_bind, o_map, b_rcv, b_gI, b_gL, b_gR, b_gN, b_pI, b_pL, b_pR, b_gAI, b_gAL, b_gAR, b_pAI, b_pAL, bad_of, bad_l, Bool.false_eq_true, ↓reduceIte, Int32.reduceLT, Int32.reduceLE, Int32.reduceToNatClampNeg, Int32.reduceOfNat, Int32.reduceAdd, Int32.reduceSub, Int32.reduceMul, Nat.reduceAdd, Nat.reduceMul, Nat.reduceEqDiff]
  rfl
theorem q_denied {m : Nat} {h : MHp} (L : QL m h) (t : Int32) : mX16_denied h m t = some (0, rtb m h t) := by
  simp (disch := omega) only [mX16_denied, qK0 L, e_K_sI, o_bind, o_map, b_rcv, b_gI, b_gL, b_gR, b_gN, b_pI, b_pL, b_pR, b_gAI, b_gAL, b_gAR, b_pAI, b_pAL, bad_of, bad_l, Bool.false_eq_true, ↓reduceIte, Int32.reduceLT, Int32.reduceLE, Int32.reduceToNatClampNeg, Int32.reduceOfNat, Int32.reduceAdd, Int32.reduceSub, Int32.reduceMul, Nat.reduceAdd, Nat.reduceMul, Nat.reduceEqDiff]
  rfl
theorem q_lost {m : Nat} {h : MHp} (L : QL m h) (t : Int32) : mX16_lost h m t = some (-9223372036854775808, rtb m h t) := by
  simp (disch := omega) only [mX16_lost, qK0 L, e_K_sI, o_bind, o_map, b_rcv, b_gI, b_gL, b_gR, b_gN, b_pI, b_pL, b_pR, b_gAI, b_gAL, b_gAR, b_pAI, b_pAL, bad_of, bad_l, Bool.false_eq_true, ↓reduceIte, Int32.reduceLT, Int32.reduceLE, Int32.reduceToNatClampNeg, Int32.reduceOfNat, Int32.reduceAdd, Int32.reduceSub, Int32.reduceMul, Nat.reduceAdd, Nat.reduceMul, Nat.reduceEqDiff]
  rfl
theorem q_done {m : Nat} {h : MHp} (L : QL m h) (v : Int32) : mX16_done h m v = some (v, rtb m h 0) := by
  simp (disch := omega) only [mX16_done, qK0 L, e_K_sI, o_bind, o_map, b_rcv, b_gI, b_gL, b_gR, b_gN, b_pI, b_pL, b_pR, b_gAI, b_gAL, b_gAR, b_pAI, b_pAL, bad_of, bad_l, Bool.false_eq_true, ↓reduceIte, Int32.reduceLT, Int32.reduceLE, Int32.reduceToNatClampNeg, Int32.reduceOfNat, Int32.reduceAdd, Int32.reduceSub, Int32.reduceMul, Nat.reduceAdd, Nat.reduceMul, Nat.reduceEqDiff]
  rfl
theorem q_told {m : Nat} {h : MHp} (L : QL m h) (v : Int64) : mX16_told h m v = some (v, rtb m h 0) := by
  simp (disch := omega) only [mX16_told, qK0 L, e_K_sI, o_bind, o_map, b_rcv, b_gI, b_gL, b_gR, b_gN, b_pI, b_pL, b_pR, b_gAI, b_gAL, b_gAR, b_pAI, b_pAL, bad_of, bad_l, Bool.false_eq_true, ↓reduceIte, Int32.reduceLT, Int32.reduceLE, Int32.reduceToNatClampNeg, Int32.reduceOfNat, Int32.reduceAdd, Int32.reduceSub, Int32.reduceMul, Nat.reduceAdd, Nat.reduceMul, Nat.reduceEqDiff]
  rfl
theorem q_granted {m : Nat} {h : MHp} (L : QL m h) : mX16_granted h m = some (1, rtb m h 0) := by
  simp (disch := omega) only [mX16_granted, qK0 L, e_K_sI, o_bind, o_map, b_rcv, b_gI, b_gL, b_gR, b_gN, b_pI, b_pL, b_pR, b_gAI, b_gAL, b_gAR, b_pAI, b_pAL, bad_of, bad_l, Bool.false_eq_true, ↓reduceIte, Int32.reduceLT, Int32.reduceLE, Int32.reduceToNatClampNeg, Int32.reduceOfNat, Int32.reduceAdd, Int32.reduceSub, Int32.reduceMul, Nat.reduceAdd, Nat.reduceMul, Nat.reduceEqDiff]
  rfl

/-! what reading a text changes of the reference -/
def qx (j : Nat) : Bool := decide (j ≤ 3 ∨ (10 ≤ j ∧ j ≤ 16))
def QF (m : Nat) (h h' : MHp) : Prop := hS h ≤ hS h' ∧ (∀ a : Nat, a < hS h → hK h' a = hK h a ∧ hN h' a = hN h a ∧ hAR h' a = hAR h a ∧ hAI h' a = hAI h a ∧ hAL h' a = hAL h a ∧ (∀ j : Nat, ¬ (a = m ∧ j = 5) → hR h' a j = hR h a j) ∧ (a ≠ m → a ≠ m + 2 → hI h' a = hI h a ∧ hL h' a = hL h a)) ∧ ∀ j : Nat, qx j = false → hI h' m j = hI h m j
theorem QF.rf {m : Nat} {h : MHp} : QF m h h := ⟨Nat.le_refl _, fun _ _ => ⟨rfl, rfl, rfl, rfl, rfl, fun _ _ => rfl, fun _ _ => ⟨rfl, rfl⟩⟩, fun _ _ => rfl⟩
theorem QF.tr {m : Nat} {h h1 h2 : MHp} (A : QF m h h1) (B : QF m h1 h2) : QF m h h2 := by
  refine ⟨Nat.le_trans A.1 B.1, fun a ha => ?_, fun j hj => (B.2.2 j hj).trans (A.2.2 j hj)⟩
  obtain ⟨x1, x2, x3, x4, x5, x6, x7⟩ := A.2.1 a ha
  obtain ⟨y1, y2, y3, y4, y5, y6, y7⟩ := B.2.1 a (Nat.lt_of_lt_of_le ha A.1)
  exact ⟨y1.trans x1, y2.trans x2, y3.trans x3, y4.trans x4, y5.trans x5, fun j hj => (y6 j hj).trans (x6 j hj), fun h1 h2 => ⟨(y7 h1 h2).1.trans (x7 h1 h2).1, (y7 h1 h2).2.trans (x7 h1 h2).2⟩⟩
theorem QF.I {m : Nat} {h : MHp} (j : Nat) (v : Int32) (hj : qx j = true) : QF m h (sI h m j v) :=
  ⟨Nat.le_refl _, fun a _ => ⟨rfl, rfl, rfl, rfl, rfl, fun _ _ => rfl, fun h1 _ => ⟨by funext i; rw [e_sI, if_neg (fun e => h1 e.1)], rfl⟩⟩, fun i hi => by rw [e_sI, if_neg (fun e => by rw [e.2, hj] at hi; cases hi)]⟩
theorem QF.R5 {m : Nat} {h : MHp} (v : Option Nat) : QF m h (sR h m 5 v) :=
  ⟨Nat.le_refl _, fun a _ => ⟨rfl, rfl, rfl, rfl, rfl, fun j hj => by rw [e_sR, if_neg hj], fun _ _ => ⟨rfl, rfl⟩⟩, fun _ _ => rfl⟩
theorem QF.new {m : Nat} {h h' : MHp} (G : Ag 0 (hS h) h h') (S : hS h ≤ hS h') (d : m < hS h) : QF m h h' :=
  ⟨S, fun a ha => by
    obtain ⟨a1, a2, a3, a4, a5, a6, a7, a8⟩ := G a (Nat.zero_le _) ha
    exact ⟨a1, a2, a8, a6, a7, fun j _ => by rw [a5], fun _ _ => ⟨a3, a4⟩⟩, fun j _ => by rw [(G m (Nat.zero_le _) d).2.2.1]⟩
theorem qx_0 {j : Nat} (h : qx j = false) : ¬ (12 ≤ j ∧ j ≤ 16) := by
  intro e
  unfold qx at h
  rw [decide_eq_true (by omega)] at h
  cases h
theorem QF.fr {m b : Nat} {h h1 h2 : MHp} (Q : QF m h h1) (F : FR m b h1 h2) (d : hS h ≤ b) : QF m h h2 := by
  refine ⟨Nat.le_trans Q.1 F.1, fun a ha => ?_, fun j hj => (F.2.2 j (qx_0 hj)).trans (Q.2.2 j hj)⟩
  obtain ⟨x1, x2, x3, x4, x5, x6, x7⟩ := Q.2.1 a ha
  obtain ⟨y1, y2, y3, y4⟩ := F.2.1 a (Nat.lt_of_lt_of_le ha Q.1)
  obtain ⟨z1, z2, z3, z4⟩ := y4 (Or.inl (by omega))
  exact ⟨y1.trans x1, y2.trans x2, z1.trans x3, z2.trans x4, z3.trans x5, fun j hj => by rw [y3]; exact x6 j hj, fun e1 e2 => ⟨(z4 e1 e2).1.trans (x7 e1 e2).1, (z4 e1 e2).2.trans (x7 e1 e2).2⟩⟩
theorem QF.sn {m : Nat} {h h' : MHp} (S : Sn m h h') : QF m h h' := by
  obtain ⟨a1, a2, a3, a4, a5, a6, a7, a8, a9⟩ := S
  exact ⟨by rw [a7]; exact Nat.le_refl _, fun a _ => ⟨by rw [a1], by rw [a2], by rw [a4], by rw [a5], by rw [a6], fun j _ => by rw [a3], fun e _ => a8 a e⟩, fun j hj => a9 j (qx_0 hj)⟩
theorem QF.om {m : Nat} {h h' : MHp} (F : QF m h h') (d : m ≤ hS h) : Om m h h' := by
  refine ⟨F.1, fun a _ ha => ?_⟩
  obtain ⟨x1, x2, x3, x4, x5, x6, x7⟩ := F.2.1 a (by omega)
  obtain ⟨y1, y2⟩ := x7 (by omega) (by omega)
  exact ⟨x1, x2, y1, y2, (by funext j; exact x6 j (by omega)), x4, x5, x3⟩
theorem QF.ql {m : Nat} {h h' : MHp} (F : QF m h h') (d : m + 26 ≤ hS h) (L : QL m h) : QL m h' := by
  obtain ⟨l1, l2⟩ := L
  have b2 : ∀ x : Nat × Nat × Nat, x ∈ rlR → x.1 < 26 ∧ ¬ (x.1 = 0 ∧ x.2.1 = 5) := by decide +kernel
  refine ⟨fun k hk => ?_, fun x hx => ?_⟩
  · obtain ⟨a1, a2, -⟩ := F.2.1 (m + k) (by omega)
    rw [a1, a2]; exact l1 k hk
  · have := b2 x hx
    obtain ⟨-, -, -, -, -, a6, -⟩ := F.2.1 (m + x.1) (by omega)
    rw [a6 _ (by omega)]; exact l2 x hx
theorem QF.ag {m : Nat} {h h' : MHp} (F : QF m h h') : Ag (m + 26) (hS h) h h' := by
  intro a y z
  obtain ⟨x1, x2, x3, x4, x5, x6, x7⟩ := F.2.1 a z
  obtain ⟨y1, y2⟩ := x7 (by omega) (by omega)
  exact ⟨x1, x2, y1, y2, (by funext j; exact x6 j (by omega)), x4, x5, x3⟩
/-- the reference shows the state behind a text that was read -/
theorem RR.qf {m : Nat} {h h' : MHp} {A : AS} {t f x : Int32} (F : QF m h h') (C : RR m h A) (i10 : hI h' m 10 = 0) (i1 : hI h' m 1 = t) (i3 : hI h' m 3 = f) (i2 : hI h' m 2 = if t = 4 then x else -1) : RR m h' (fA A t f x) := by
  obtain ⟨x0, ⟨y1, y2, y3, y4, y5, y6, y7, y8, y9, y10, y11, y12, y13, y14⟩, z, w1, w2, w3⟩ := C
  have d26 := x0.2.1
  have G := F.ag
  have q := F.2.2
  have ga : ∀ k : Nat, k < 26 → hAI h' (m + k) = hAI h (m + k) := fun k hk => (F.2.1 (m + k) (by omega)).2.2.2.1
  have r4 : hR h' m 4 = hR h m 4 := (F.2.1 m (by omega)).2.2.2.2.2.1 4 (by omega)
  have ra : hAR h' (m + 1) = hAR h (m + 1) := (F.2.1 (m + 1) (by omega)).2.2.1
  refine ⟨RR0.ag G F.1 (F.ql d26 x0.1) r4 x0, ⟨?_, ?_, ?_, ?_, ?_, ?_, ?_, ?_, ?_, ?_, ?_, ?_, ?_, ?_⟩, ?_, ?_, ?_, fun k hk => ?_⟩
  · rw [fA_N0]; exact i10
  · rw [fA_N _ _ _ _ (by decide), q 7 (by decide)]; exact y2
  · rw [fA_N _ _ _ _ (by decide), q 18 (by decide)]; exact y3
  · rw [fA_N _ _ _ _ (by decide), q 49 (by decide)]; exact y4
  · rw [fA_S0]; exact i1
  · rw [fA_S1]; exact i3
  · rw [fA_S0, fA_S2]; exact i2
  · rw [fA_S _ _ _ _ (by decide), q 19 (by decide)]; exact y8
  · rw [fA_S _ _ _ _ (by decide), q 32 (by decide)]; exact y9
  · rw [fA_S _ _ _ _ (by decide), q 34 (by decide)]; exact y10
  · rw [fA_S _ _ _ _ (by decide), q 37 (by decide)]; exact y11
  · rw [fA_S _ _ _ _ (by decide), q 38 (by decide)]; exact y12
  · rw [fA_S _ _ _ _ (by decide), q 39 (by decide)]; exact y13
  · rw [fA_S _ _ _ _ (by decide), q 40 (by decide)]; exact y14
  · unfold RR2
    rw [fA_N _ _ _ _ (by decide), ga 3 (by omega), ga 4 (by omega), ga 5 (by omega), ga 6 (by omega), ga 7 (by omega), ga 8 (by omega), ga 9 (by omega), ga 10 (by omega), ga 11 (by omega), ga 12 (by omega), ga 18 (by omega)]
    exact z
  · rw [fA_S _ _ _ _ (by decide), ga 17 (by omega)]; exact w1
  · rw [fA_N _ _ _ _ (by decide), ga 24 (by omega)]; exact w2
  · rw [fA_N _ _ _ _ (by decide)] at hk ⊢
    obtain ⟨p, p1, p2, p3, p4⟩ := w3 k hk
    obtain ⟨-, -, -, -, ⟨p5, p6⟩, -⟩ := id p2
    exact ⟨p, by rw [ra]; exact p1, p2.ag G F.1, p3.ag (G.sub (by omega) (by omega)), by rw [ra]; exact p4⟩
/-! the reference's new book -/
def nwB (h : MHp) : MHp := sR (nA (sR (nA (sR (nA (sR (nA (nO h 13 6) 21 6) (hS h) 2 (some (hS h + 1))) 20 6) (hS h) 3 (some (hS h + 1 + 1))) 20 6) (hS h) 4 (some (hS h + 1 + 1 + 1))) 27 12) (hS h) 5 (some (hS h + 1 + 1 + 1 + 1))
theorem nwB_S (h : MHp) : hS (nwB h) = hS h + 5 := (rfl)
theorem nwB_e {β : Type} (h : MHp) (f : MHp → Option β) : ((some (nO h 13 6)).bind fun h66 => (mX12_init h66 (hS h)).bind f) = f (nwB h) := by
  have k0 : hK (nO h 13 6) (hS h) = 13 := by rw [e_K_nO, if_pos rfl]
  have k1 : hK (nA (nO h 13 6) 21 6) (hS h) = 13 := by rw [e_K_nA, e_S_nO, if_neg (by omega)]; exact k0
  have k2 : hK (nA (sR (nA (nO h 13 6) 21 6) (hS h) 2 (some (hS h + 1))) 20 6) (hS h) = 13 := by rw [e_K_nA, e_S_sR, e_S_nA, e_S_nO, if_neg (by omega), e_K_sR]; exact k1
  have k3 : hK (nA (sR (nA (sR (nA (nO h 13 6) 21 6) (hS h) 2 (some (hS h + 1))) 20 6) (hS h) 3 (some (hS h + 1 + 1))) 20 6) (hS h) = 13 := by rw [e_K_nA, e_S_sR, e_S_nA, e_S_sR, e_S_nA, e_S_nO, if_neg (by omega), e_K_sR]; exact k2
  have k4 : hK (nA (sR (nA (sR (nA (sR (nA (nO h 13 6) 21 6) (hS h) 2 (some (hS h + 1))) 20 6) (hS h) 3 (some (hS h + 1 + 1))) 20 6) (hS h) 4 (some (hS h + 1 + 1 + 1))) 27 12) (hS h) = 13 := by rw [e_K_nA, e_S_sR, e_S_nA, e_S_sR, e_S_nA, e_S_sR, e_S_nA, e_S_nO, if_neg (by omega), e_K_sR]; exact k3
  rw [o_bind, mX12_init, o_bind, b_pR, if_pos k1, e_S_nO, o_bind, b_pR, if_pos k2, e_S_sR, e_S_nA, e_S_nO, o_bind, b_pR, if_pos k3, e_S_sR, e_S_nA, e_S_sR, e_S_nA, e_S_nO, o_bind, b_pR, if_pos k4, e_S_sR, e_S_nA, e_S_sR, e_S_nA, e_S_sR, e_S_nA, e_S_nO, o_bind]
  rfl
theorem nwB_ag {h : MHp} : Ag 0 (hS h) h (nwB h) := by
  unfold nwB
  exact (((((((Ag.O 13 6 (Nat.le_refl _)).tr (Ag.A 21 6 (by rw [e_S_nO]; omega))).tr (Ag.R _ 2 _ (by omega))).tr (Ag.A 20 6 (by rw [e_S_sR, e_S_nA, e_S_nO]; omega))).tr (Ag.R _ 3 _ (by omega))).tr (Ag.A 20 6 (by rw [e_S_sR, e_S_nA, e_S_sR, e_S_nA, e_S_nO]; omega))).tr (Ag.R _ 4 _ (by omega))).tr (Ag.A 27 12 (by rw [e_S_sR, e_S_nA, e_S_sR, e_S_nA, e_S_sR, e_S_nA, e_S_nO]; omega)) |>.tr (Ag.R _ 5 _ (by omega))
theorem nwB_rb (h : MHp) : RIB (nwB h) (hS h) ∧ hI (nwB h) (hS h) 0 = 0 ∧ hI (nwB h) (hS h) 1 = 0 := by
  refine ⟨?_, ?_, ?_⟩
  · unfold nwB RIB
    refine ⟨?_, ?_, ?_, ?_, ?_, ?_, ?_, ?_, ?_, ?_, ?_, ?_, ?_⟩ <;> simp [e_K_sR, e_N_sR, e_K_nA, e_N_nA, e_R_nA, e_K_nO, e_N_nO, e_R_nO, e_sR, e_S_sR, e_S_nA, e_S_nO] <;> rw [if_neg (by omega), if_neg (by omega), if_neg (by omega)]
  · unfold nwB
    simp [e_I_sR, e_I_nA, e_I_nO]
  · unfold nwB
    simp [e_I_sR, e_I_nA, e_I_nO]
/-! the reference begins to read -/
theorem q_begins {m : Nat} {h : MHp} (L : QL m h) (a : Int32) : mX16_begins h m a = some (sI (sI (sI (sI h m 11 a) m 10 0) m 12 0) m 3 0) := by
  have K := qK0 L
  rw [mX16_begins, b_pI, if_pos K, b_pI, if_pos (by exact K), b_pI, if_pos (by exact K), b_pI, if_pos (by exact K)]
theorem q_wrong {m : Nat} {h : MHp} (L : QL m h) : mX16_wrong h m (some (m + 2)) = some (-1, sI (sI (sI h m 3 (hI h (m + 2) 6)) m 1 4) m 2 (hI h (m + 2) 7)) := by
  have K := qK0 L
  have e : hI (sI (sI h m 3 (hI h (m + 2) 6)) m 1 4) (m + 2) 7 = hI h (m + 2) 7 := by rw [e_sI, if_neg (by omega), e_sI, if_neg (by omega)]
  rw [mX16_wrong, b_gI, if_pos (qK2 L), b_pI, if_pos K, b_pI, if_pos (by exact K), b_gI, if_pos (by exact qK2 L), e, b_pI, if_pos (by exact K)]
/-- the reference shows the state behind a text with a fault -/
theorem RR.wrong {m : Nat} {h h' : MHp} {A : AS} (F : QF m h h') (C : RR m h A) (i10 : hI h' m 10 = 0) : RR m (sI (sI (sI h' m 3 (hI h' (m + 2) 6)) m 1 4) m 2 (hI h' (m + 2) 7)) (fA A 4 (hI h' (m + 2) 6) (hI h' (m + 2) 7)) := by
  refine RR.qf (((F.tr (QF.I 3 _ (by decide))).tr (QF.I 1 _ (by decide))).tr (QF.I 2 _ (by decide))) C ?_ ?_ ?_ ?_
  · rw [e_sI, if_neg (by omega), e_sI, if_neg (by omega), e_sI, if_neg (by omega)]; exact i10
  · rw [e_sI, if_neg (by omega), e_Iself]
  · rw [e_sI, if_neg (by omega), e_sI, if_neg (by omega), e_Iself]
  · rw [e_Iself, if_pos rfl]

/-! set, lot -/
theorem dv_of {a b : Nat} (ha : a < 2147483648) (hb : b < 2147483648) : Int32.ofNat a / Int32.ofNat b = Int32.ofNat (a / b) := (Int32.ofNat_div ha hb).symm
theorem md_of {a b : Nat} (ha : a < 2147483648) (hb : b < 2147483648) : Int32.ofNat a - Int32.ofNat a / Int32.ofNat b * Int32.ofNat b = Int32.ofNat (a % b) := by
  rw [dv_of ha hb, ← Int32.ofNat_mul]
  have h : a = a / b * b + a % b := by rw [Nat.mul_comm]; exact (Nat.div_add_mod a b).symm
  have e : Int32.ofNat a = Int32.ofNat (a / b * b) + Int32.ofNat (a % b) := by rw [← Int32.ofNat_add, ← h]
  rw [e]
  generalize Int32.ofNat (a / b * b) = x
  generalize Int32.ofNat (a % b) = y
  grind

theorem CR.st0 {c : Nat} {h : MHp} {A : AS} (W : WA A) (C : CR c h A) (v : Int32) : CR c (sAI h (c + 184) (va_up (hAI h (c + 184)) 0 v)) (setS A 6 v) := by
  have h8 := W.2.2.1
  have hw := W.1.2.1
  obtain ⟨⟨b9, s9, x1, x2, x3, x4, x5, x6⟩, ⟨y1, y2, y3, y4, y5, y6, y7, y8, y9⟩, ⟨z1, z2, z3, z4, z5, z6, z7, z8, z9, z10, z11, z12⟩, w1, w2, w3, w4⟩ := C
  have ga : ∀ a : Nat, a ≠ (c + 184) → hAI (sAI h (c + 184) (va_up (hAI h (c + 184)) 0 v)) a = hAI h a := by
    intro a d
    rw [e_sAI, if_neg (by omega)]
  have ag9 : ∀ lo hi : Nat, ((c + 184) < lo ∨ hi ≤ (c + 184)) → Ag lo hi h (sAI h (c + 184) (va_up (hAI h (c + 184)) 0 v)) := fun lo hi d => Ag.AI _ _ (by omega)
  refine ⟨⟨b9, s9, x1, x2, x3, x4, x5.ag (ag9 _ _ (by omega)) hw, x6⟩, ⟨y1, y2, y3, y4, y5, y6, y7, y8, y9⟩, ⟨(by rw [e_sAI, if_pos rfl, e_up, if_pos rfl]; rfl), (by rw [e_sAI, if_pos rfl, e_up, if_neg (by decide)]; exact z2), (by rw [e_sAI, if_pos rfl, e_up, if_neg (by decide)]; exact z3), (by rw [e_sAI, if_pos rfl, e_up, if_neg (by decide)]; exact z4), (by rw [ga _ (by omega)]; exact z5), (by rw [ga _ (by omega)]; exact z6), (by rw [ga _ (by omega)]; exact z7), (by rw [ga _ (by omega)]; exact z8), (by rw [ga _ (by omega)]; exact z9), (by rw [ga _ (by omega)]; exact z10), (by rw [ga _ (by omega)]; exact z11), (by rw [ga _ (by omega)]; exact z12)⟩, (by rw [ga _ (by omega), ga _ (by omega)]; exact w1), (by rw [ga _ (by omega)]; exact w2), (by rw [ga (c + 207) (by omega)]; exact w3), fun k9 hk => (fun (hk2 : k9 < aN A 1) => ⟨(w4 k9 hk2).1.ag (ag9 _ _ (by omega)), (w4 k9 hk2).2.ag (ag9 _ _ (by omega))⟩) hk⟩

theorem RR.st0 {m : Nat} {h : MHp} {A : AS} (C : RR m h A) (v : Int32) : RR m (sI h m 37 v) (setS A 6 v) := by
  obtain ⟨x, ⟨y1, y2, y3, y4, y5, y6, y7, y8, y9, y10, y11, y12, y13, y14⟩, ⟨z1, z2, z3, z4, z5, z6, z7, z8, z9⟩, w1, w2, w3⟩ := C
  have gI : ∀ a j : Nat, (a ≠ m ∨ j ≠ 37) → hI (sI h m 37 v) a j = hI h a j := by
    intro a j d
    rw [e_sI, if_neg (by omega)]
  have ag9 : ∀ lo hi : Nat, (m < lo ∨ hi ≤ m) → Ag lo hi h (sI h m 37 v) := fun lo hi d => Ag.I _ _ _ (by omega)
  refine ⟨x.ag (ag9 _ _ (by omega)) (Nat.le_refl _) x.1 rfl, ⟨(by rw [gI _ _ (by omega)]; exact y1), (by rw [gI _ _ (by omega)]; exact y2), (by rw [gI _ _ (by omega)]; exact y3), (by rw [gI _ _ (by omega)]; exact y4), (by rw [gI _ _ (by omega)]; exact y5), (by rw [gI _ _ (by omega)]; exact y6), (by rw [gI _ _ (by omega)]; exact y7), (by rw [gI _ _ (by omega)]; exact y8), (by rw [gI _ _ (by omega)]; exact y9), (by rw [gI _ _ (by omega)]; exact y10), (by rw [e_sI, if_pos ⟨rfl, rfl⟩]; rfl), (by rw [gI _ _ (by omega)]; exact y12), (by rw [gI _ _ (by omega)]; exact y13), (by rw [gI _ _ (by omega)]; exact y14)⟩, ⟨z1, z2, z3, z4, z5, z6, z7, z8, z9⟩, w1, w2, ?_⟩
  · intro k hk
    obtain ⟨p, p1, p2, p3, p4⟩ := w3 k hk
    obtain ⟨-, -, -, -, ⟨p5, p6⟩, -⟩ := id p2
    exact ⟨p, p1, p2.ag (ag9 _ _ (by omega)) (Nat.le_refl _), p3.ag (ag9 _ _ (by omega)), p4⟩

theorem CR.st1 {c : Nat} {h : MHp} {A : AS} (W : WA A) (C : CR c h A) (v : Int32) : CR c (sAI h (c + 184) (va_up (hAI h (c + 184)) 1 v)) (setS A 7 v) := by
  have h8 := W.2.2.1
  have hw := W.1.2.1
  obtain ⟨⟨b9, s9, x1, x2, x3, x4, x5, x6⟩, ⟨y1, y2, y3, y4, y5, y6, y7, y8, y9⟩, ⟨z1, z2, z3, z4, z5, z6, z7, z8, z9, z10, z11, z12⟩, w1, w2, w3, w4⟩ := C
  have ga : ∀ a : Nat, a ≠ (c + 184) → hAI (sAI h (c + 184) (va_up (hAI h (c + 184)) 1 v)) a = hAI h a := by
    intro a d
    rw [e_sAI, if_neg (by omega)]
  have ag9 : ∀ lo hi : Nat, ((c + 184) < lo ∨ hi ≤ (c + 184)) → Ag lo hi h (sAI h (c + 184) (va_up (hAI h (c + 184)) 1 v)) := fun lo hi d => Ag.AI _ _ (by omega)
  refine ⟨⟨b9, s9, x1, x2, x3, x4, x5.ag (ag9 _ _ (by omega)) hw, x6⟩, ⟨y1, y2, y3, y4, y5, y6, y7, y8, y9⟩, ⟨(by rw [e_sAI, if_pos rfl, e_up, if_neg (by decide)]; exact z1), (by rw [e_sAI, if_pos rfl, e_up, if_pos rfl]; rfl), (by rw [e_sAI, if_pos rfl, e_up, if_neg (by decide)]; exact z3), (by rw [e_sAI, if_pos rfl, e_up, if_neg (by decide)]; exact z4), (by rw [ga _ (by omega)]; exact z5), (by rw [ga _ (by omega)]; exact z6), (by rw [ga _ (by omega)]; exact z7), (by rw [ga _ (by omega)]; exact z8), (by rw [ga _ (by omega)]; exact z9), (by rw [ga _ (by omega)]; exact z10), (by rw [ga _ (by omega)]; exact z11), (by rw [ga _ (by omega)]; exact z12)⟩, (by rw [ga _ (by omega), ga _ (by omega)]; exact w1), (by rw [ga _ (by omega)]; exact w2), (by rw [ga (c + 207) (by omega)]; exact w3), fun k9 hk => (fun (hk2 : k9 < aN A 1) => ⟨(w4 k9 hk2).1.ag (ag9 _ _ (by omega)), (w4 k9 hk2).2.ag (ag9 _ _ (by omega))⟩) hk⟩

theorem RR.st1 {m : Nat} {h : MHp} {A : AS} (C : RR m h A) (v : Int32) : RR m (sI h m 38 v) (setS A 7 v) := by
  obtain ⟨x, ⟨y1, y2, y3, y4, y5, y6, y7, y8, y9, y10, y11, y12, y13, y14⟩, ⟨z1, z2, z3, z4, z5, z6, z7, z8, z9⟩, w1, w2, w3⟩ := C
  have gI : ∀ a j : Nat, (a ≠ m ∨ j ≠ 38) → hI (sI h m 38 v) a j = hI h a j := by
    intro a j d
    rw [e_sI, if_neg (by omega)]
  have ag9 : ∀ lo hi : Nat, (m < lo ∨ hi ≤ m) → Ag lo hi h (sI h m 38 v) := fun lo hi d => Ag.I _ _ _ (by omega)
  refine ⟨x.ag (ag9 _ _ (by omega)) (Nat.le_refl _) x.1 rfl, ⟨(by rw [gI _ _ (by omega)]; exact y1), (by rw [gI _ _ (by omega)]; exact y2), (by rw [gI _ _ (by omega)]; exact y3), (by rw [gI _ _ (by omega)]; exact y4), (by rw [gI _ _ (by omega)]; exact y5), (by rw [gI _ _ (by omega)]; exact y6), (by rw [gI _ _ (by omega)]; exact y7), (by rw [gI _ _ (by omega)]; exact y8), (by rw [gI _ _ (by omega)]; exact y9), (by rw [gI _ _ (by omega)]; exact y10), (by rw [gI _ _ (by omega)]; exact y11), (by rw [e_sI, if_pos ⟨rfl, rfl⟩]; rfl), (by rw [gI _ _ (by omega)]; exact y13), (by rw [gI _ _ (by omega)]; exact y14)⟩, ⟨z1, z2, z3, z4, z5, z6, z7, z8, z9⟩, w1, w2, ?_⟩
  · intro k hk
    obtain ⟨p, p1, p2, p3, p4⟩ := w3 k hk
    obtain ⟨-, -, -, -, ⟨p5, p6⟩, -⟩ := id p2
    exact ⟨p, p1, p2.ag (ag9 _ _ (by omega)) (Nat.le_refl _), p3.ag (ag9 _ _ (by omega)), p4⟩

theorem CR.st2 {c : Nat} {h : MHp} {A : AS} (W : WA A) (C : CR c h A) (v : Int32) : CR c (sAI h (c + 184) (va_up (hAI h (c + 184)) 2 v)) (setS A 8 v) := by
  have h8 := W.2.2.1
  have hw := W.1.2.1
  obtain ⟨⟨b9, s9, x1, x2, x3, x4, x5, x6⟩, ⟨y1, y2, y3, y4, y5, y6, y7, y8, y9⟩, ⟨z1, z2, z3, z4, z5, z6, z7, z8, z9, z10, z11, z12⟩, w1, w2, w3, w4⟩ := C
  have ga : ∀ a : Nat, a ≠ (c + 184) → hAI (sAI h (c + 184) (va_up (hAI h (c + 184)) 2 v)) a = hAI h a := by
    intro a d
    rw [e_sAI, if_neg (by omega)]
  have ag9 : ∀ lo hi : Nat, ((c + 184) < lo ∨ hi ≤ (c + 184)) → Ag lo hi h (sAI h (c + 184) (va_up (hAI h (c + 184)) 2 v)) := fun lo hi d => Ag.AI _ _ (by omega)
  refine ⟨⟨b9, s9, x1, x2, x3, x4, x5.ag (ag9 _ _ (by omega)) hw, x6⟩, ⟨y1, y2, y3, y4, y5, y6, y7, y8, y9⟩, ⟨(by rw [e_sAI, if_pos rfl, e_up, if_neg (by decide)]; exact z1), (by rw [e_sAI, if_pos rfl, e_up, if_neg (by decide)]; exact z2), (by rw [e_sAI, if_pos rfl, e_up, if_pos rfl]; rfl), (by rw [e_sAI, if_pos rfl, e_up, if_neg (by decide)]; exact z4), (by rw [ga _ (by omega)]; exact z5), (by rw [ga _ (by omega)]; exact z6), (by rw [ga _ (by omega)]; exact z7), (by rw [ga _ (by omega)]; exact z8), (by rw [ga _ (by omega)]; exact z9), (by rw [ga _ (by omega)]; exact z10), (by rw [ga _ (by omega)]; exact z11), (by rw [ga _ (by omega)]; exact z12)⟩, (by rw [ga _ (by omega), ga _ (by omega)]; exact w1), (by rw [ga _ (by omega)]; exact w2), (by rw [ga (c + 207) (by omega)]; exact w3), fun k9 hk => (fun (hk2 : k9 < aN A 1) => ⟨(w4 k9 hk2).1.ag (ag9 _ _ (by omega)), (w4 k9 hk2).2.ag (ag9 _ _ (by omega))⟩) hk⟩

theorem RR.st2 {m : Nat} {h : MHp} {A : AS} (C : RR m h A) (v : Int32) : RR m (sI h m 39 v) (setS A 8 v) := by
  obtain ⟨x, ⟨y1, y2, y3, y4, y5, y6, y7, y8, y9, y10, y11, y12, y13, y14⟩, ⟨z1, z2, z3, z4, z5, z6, z7, z8, z9⟩, w1, w2, w3⟩ := C
  have gI : ∀ a j : Nat, (a ≠ m ∨ j ≠ 39) → hI (sI h m 39 v) a j = hI h a j := by
    intro a j d
    rw [e_sI, if_neg (by omega)]
  have ag9 : ∀ lo hi : Nat, (m < lo ∨ hi ≤ m) → Ag lo hi h (sI h m 39 v) := fun lo hi d => Ag.I _ _ _ (by omega)
  refine ⟨x.ag (ag9 _ _ (by omega)) (Nat.le_refl _) x.1 rfl, ⟨(by rw [gI _ _ (by omega)]; exact y1), (by rw [gI _ _ (by omega)]; exact y2), (by rw [gI _ _ (by omega)]; exact y3), (by rw [gI _ _ (by omega)]; exact y4), (by rw [gI _ _ (by omega)]; exact y5), (by rw [gI _ _ (by omega)]; exact y6), (by rw [gI _ _ (by omega)]; exact y7), (by rw [gI _ _ (by omega)]; exact y8), (by rw [gI _ _ (by omega)]; exact y9), (by rw [gI _ _ (by omega)]; exact y10), (by rw [gI _ _ (by omega)]; exact y11), (by rw [gI _ _ (by omega)]; exact y12), (by rw [e_sI, if_pos ⟨rfl, rfl⟩]; rfl), (by rw [gI _ _ (by omega)]; exact y14)⟩, ⟨z1, z2, z3, z4, z5, z6, z7, z8, z9⟩, w1, w2, ?_⟩
  · intro k hk
    obtain ⟨p, p1, p2, p3, p4⟩ := w3 k hk
    obtain ⟨-, -, -, -, ⟨p5, p6⟩, -⟩ := id p2
    exact ⟨p, p1, p2.ag (ag9 _ _ (by omega)) (Nat.le_refl _), p3.ag (ag9 _ _ (by omega)), p4⟩

theorem CR.st3 {c : Nat} {h : MHp} {A : AS} (W : WA A) (C : CR c h A) (v : Int32) : CR c (sAI h (c + 184) (va_up (hAI h (c + 184)) 3 v)) (setS A 9 v) := by
  have h8 := W.2.2.1
  have hw := W.1.2.1
  obtain ⟨⟨b9, s9, x1, x2, x3, x4, x5, x6⟩, ⟨y1, y2, y3, y4, y5, y6, y7, y8, y9⟩, ⟨z1, z2, z3, z4, z5, z6, z7, z8, z9, z10, z11, z12⟩, w1, w2, w3, w4⟩ := C
  have ga : ∀ a : Nat, a ≠ (c + 184) → hAI (sAI h (c + 184) (va_up (hAI h (c + 184)) 3 v)) a = hAI h a := by
    intro a d
    rw [e_sAI, if_neg (by omega)]
  have ag9 : ∀ lo hi : Nat, ((c + 184) < lo ∨ hi ≤ (c + 184)) → Ag lo hi h (sAI h (c + 184) (va_up (hAI h (c + 184)) 3 v)) := fun lo hi d => Ag.AI _ _ (by omega)
  refine ⟨⟨b9, s9, x1, x2, x3, x4, x5.ag (ag9 _ _ (by omega)) hw, x6⟩, ⟨y1, y2, y3, y4, y5, y6, y7, y8, y9⟩, ⟨(by rw [e_sAI, if_pos rfl, e_up, if_neg (by decide)]; exact z1), (by rw [e_sAI, if_pos rfl, e_up, if_neg (by decide)]; exact z2), (by rw [e_sAI, if_pos rfl, e_up, if_neg (by decide)]; exact z3), (by rw [e_sAI, if_pos rfl, e_up, if_pos rfl]; rfl), (by rw [ga _ (by omega)]; exact z5), (by rw [ga _ (by omega)]; exact z6), (by rw [ga _ (by omega)]; exact z7), (by rw [ga _ (by omega)]; exact z8), (by rw [ga _ (by omega)]; exact z9), (by rw [ga _ (by omega)]; exact z10), (by rw [ga _ (by omega)]; exact z11), (by rw [ga _ (by omega)]; exact z12)⟩, (by rw [ga _ (by omega), ga _ (by omega)]; exact w1), (by rw [ga _ (by omega)]; exact w2), (by rw [ga (c + 207) (by omega)]; exact w3), fun k9 hk => (fun (hk2 : k9 < aN A 1) => ⟨(w4 k9 hk2).1.ag (ag9 _ _ (by omega)), (w4 k9 hk2).2.ag (ag9 _ _ (by omega))⟩) hk⟩

theorem RR.st3 {m : Nat} {h : MHp} {A : AS} (C : RR m h A) (v : Int32) : RR m (sI h m 40 v) (setS A 9 v) := by
  obtain ⟨x, ⟨y1, y2, y3, y4, y5, y6, y7, y8, y9, y10, y11, y12, y13, y14⟩, ⟨z1, z2, z3, z4, z5, z6, z7, z8, z9⟩, w1, w2, w3⟩ := C
  have gI : ∀ a j : Nat, (a ≠ m ∨ j ≠ 40) → hI (sI h m 40 v) a j = hI h a j := by
    intro a j d
    rw [e_sI, if_neg (by omega)]
  have ag9 : ∀ lo hi : Nat, (m < lo ∨ hi ≤ m) → Ag lo hi h (sI h m 40 v) := fun lo hi d => Ag.I _ _ _ (by omega)
  refine ⟨x.ag (ag9 _ _ (by omega)) (Nat.le_refl _) x.1 rfl, ⟨(by rw [gI _ _ (by omega)]; exact y1), (by rw [gI _ _ (by omega)]; exact y2), (by rw [gI _ _ (by omega)]; exact y3), (by rw [gI _ _ (by omega)]; exact y4), (by rw [gI _ _ (by omega)]; exact y5), (by rw [gI _ _ (by omega)]; exact y6), (by rw [gI _ _ (by omega)]; exact y7), (by rw [gI _ _ (by omega)]; exact y8), (by rw [gI _ _ (by omega)]; exact y9), (by rw [gI _ _ (by omega)]; exact y10), (by rw [gI _ _ (by omega)]; exact y11), (by rw [gI _ _ (by omega)]; exact y12), (by rw [gI _ _ (by omega)]; exact y13), (by rw [e_sI, if_pos ⟨rfl, rfl⟩]; rfl)⟩, ⟨z1, z2, z3, z4, z5, z6, z7, z8, z9⟩, w1, w2, ?_⟩
  · intro k hk
    obtain ⟨p, p1, p2, p3, p4⟩ := w3 k hk
    obtain ⟨-, -, -, -, ⟨p5, p6⟩, -⟩ := id p2
    exact ⟨p, p1, p2.ag (ag9 _ _ (by omega)) (Nat.le_refl _), p3.ag (ag9 _ _ (by omega)), p4⟩

theorem WA.st0 {A : AS} (W : WA A) {v : Int32} (hv : 1 ≤ v ∧ v ≤ 20) : WA (setS A 6 v) := by
  obtain ⟨v1, v2, v3, v4, v5, v6, v7, v8, v9, v10, v11, v12, v13, v14, v15, v16, v17, v18, v19, v20⟩ := W
  exact ⟨v1, v2, v3, v4, v5, v6, v7, v8, v9, v10, v11, hv.1, hv.2, v14, v15, v16, v17, v18, v19, v20⟩

theorem WA.st1 {A : AS} (W : WA A) {v : Int32} (hv : 1 ≤ v ∧ v ≤ 50) : WA (setS A 7 v) := by
  obtain ⟨v1, v2, v3, v4, v5, v6, v7, v8, v9, v10, v11, v12, v13, v14, v15, v16, v17, v18, v19, v20⟩ := W
  exact ⟨v1, v2, v3, v4, v5, v6, v7, v8, v9, v10, v11, v12, v13, hv.1, hv.2, v16, v17, v18, v19, v20⟩

theorem WA.st2 {A : AS} (W : WA A) {v : Int32} (hv : 1 ≤ v ∧ v ≤ 99) : WA (setS A 8 v) := by
  obtain ⟨v1, v2, v3, v4, v5, v6, v7, v8, v9, v10, v11, v12, v13, v14, v15, v16, v17, v18, v19, v20⟩ := W
  exact ⟨v1, v2, v3, v4, v5, v6, v7, v8, v9, v10, v11, v12, v13, v14, v15, hv.1, hv.2, v18, v19, v20⟩

theorem WA.st3 {A : AS} (W : WA A) {v : Int32} (hv : 0 ≤ v ∧ v ≤ 1000) : WA (setS A 9 v) := by
  obtain ⟨v1, v2, v3, v4, v5, v6, v7, v8, v9, v10, v11, v12, v13, v14, v15, v16, v17, v18, v19, v20⟩ := W
  exact ⟨v1, v2, v3, v4, v5, v6, v7, v8, v9, v10, v11, v12, v13, v14, v15, v16, v17, hv.1, hv.2, v20⟩

theorem set_b {c : Nat} {h : MHp} (L : CL c h) (w x : Int32) (v : Int32) (hv : ¬ v = 0) : mX11_set_b43 h c w x (some c) v = some (0, sI h c 15 v) := by
  have K : hK (sI h c 15 v) c = 12 := lK0 L
  rw [mX11_set_b43, b_pI, if_pos (lK0 L), b_gI, if_pos K, e_Iself, if_neg hv]

theorem x_set {c m : Nat} {h : MHp} {A : AS} (C : CR c h A) (W : WA A) (w v : Int32) : XS c m h A (mX11_set h c w v) (fun h1 => mX16_set h1 m w v) := by
  have L := C.l
  have e1 := p_hasBook C W
  by_cases hb : bF (aB A) = 0
  · rw [if_pos hb] at e1
    refine XS.no (v := 0) 1 (by decide) C W (fun _ _ => Or.inr trivial) ?_ (fun h1 R => ⟨sI h1 m 0 0, Rs.I 0 0 (by decide), ?_⟩)
    · rw [mX11_set, b_rcv, if_pos (lK0 L), e1, o_bind, if_pos rfl, mX11_set_b17, set_b L _ _ 1 n10]
    · have R2 := R.th 0
      have M := R2.1.1
      have f1 := R2.bkN hb
      have e5 := q_denied M 1
      simp (maxSteps := 3000000) (disch := omega) only [mX16_set, mX16_set_b21, qK0 R.1.1, qK0 M, f1, e5, rB0, ↓o_bind, o_map, ↓b_rcv, ↓b_gI, ↓b_gL, ↓b_gR, ↓b_gN, ↓b_pI, ↓b_pL, ↓b_pR, ↓b_gAI, ↓b_gAL, ↓b_gAR, ↓b_pAI, ↓b_pAL, bad_of, bad_l, Bool.false_eq_true, ↓reduceIte, Int32.reduceLT, Int32.reduceLE, Int32.reduceToNatClampNeg, Int32.reduceOfNat, Int32.reduceAdd, Int32.reduceSub, Int32.reduceMul, Nat.reduceAdd, Nat.reduceMul, Nat.reduceEqDiff]
  · rw [if_neg hb] at e1
    by_cases hw : 0 ≤ w ∧ w ≤ 3
    · have hw4 : w = 0 ∨ w = 1 ∨ w = 2 ∨ w = 3 := by
        obtain ⟨h1, h2⟩ := hw
        obtain ⟨k, rfl, hk⟩ := ex_of (Int32.not_lt.mpr h1)
        rw [show (3 : Int32) = Int32.ofNat 3 from rfl, le_of (by omega) (by omega)] at h2
        rcases (show k = 0 ∨ k = 1 ∨ k = 2 ∨ k = 3 by omega) with rfl | rfl | rfl | rfl
        · exact Or.inl rfl
        · exact Or.inr (Or.inl rfl)
        · exact Or.inr (Or.inr (Or.inl rfl))
        · exact Or.inr (Or.inr (Or.inr rfl))
      have no : ∀ (x y : Int32), stL 1 w = some x → stL 2 w = some y → ¬ (x ≤ v ∧ v ≤ y) → (∀ h2 : MHp, RR m h2 A → mX16_set h2 m w v = some (0, rtb m (sI h2 m 0 0) 2)) → XS c m h A (mX11_set h c w v) (fun h1 => mX16_set h1 m w v) := by
        intro x y hx hy hn hr
        refine XS.no (v := 0) 2 (by decide) C W (fun _ _ => Or.inr trivial) ?_ (fun h1 R => ⟨sI h1 m 0 0, Rs.I 0 0 (by decide), hr h1 R⟩)
        have e9 := set_b L w v 2 n20
        simp (maxSteps := 3000000) (disch := omega) only [mX11_set, lK0 L, e1, n10, p_within, hw, and_self, hx, hy, hn, e9, ↓o_bind, o_map, ↓b_rcv, ↓b_gI, ↓b_gL, ↓b_gR, ↓b_gN, ↓b_pI, ↓b_pL, ↓b_pR, ↓b_gAI, ↓b_gAL, ↓b_gAR, ↓b_pAI, ↓b_pAL, bad_of, bad_l, Bool.false_eq_true, ↓reduceIte, Int32.reduceLT, Int32.reduceLE, Int32.reduceToNatClampNeg, Int32.reduceOfNat, Int32.reduceAdd, Int32.reduceSub, Int32.reduceMul, Nat.reduceAdd, Nat.reduceMul, Nat.reduceEqDiff]

      rcases hw4 with rfl | rfl | rfl | rfl
      · have s1 : stL 1 0 = some 1 := rfl
        have s2 : stL 2 0 = some 20 := rfl
        have a0 : (0 : Int32) ≤ 0 ∧ (0 : Int32) ≤ 3 := by decide
        have m0 : (0 : Int32) = 0 ↔ True := by decide
        have m1 : (0 : Int32) = 1 ↔ False := by decide
        have m2 : (0 : Int32) = 2 ↔ False := by decide
        have m3 : (0 : Int32) = 3 ↔ False := by decide
        by_cases hv : (1 : Int32) ≤ v ∧ v ≤ 20
        · refine ⟨1, setS (tb A 0) 6 v, (W.tb (t := 0)).st0 hv, ⟨sAI (sI h c 15 0) (c + 184) (va_up (hAI (sI h c 15 0) (c + 184)) 0 v), ?_, CR.st0 (W.tb (t := 0)) (C.tb (by decide)) v, (Oc.I0 15 0).tr (Oc.AI 184 _ (by omega))⟩, fun h1 R => ?_⟩
          · have e4 : mX11_isWithin h v 1 20 = some 1 := by rw [p_within, if_pos hv]
            have e5 : ∀ h : MHp, mX11_isWithin h 0 0 3 = some 1 := fun h => by rw [p_within, if_pos a0]
            have cl : (0 : Int32).toNatClampNeg = 0 := rfl
            have bd : bad 0 4 = false := by decide
            simp (maxSteps := 3000000) (disch := omega) only [mX11_set, lK0 L, e1, n10, e5, s1, s2, e4, ↓o_bind, o_map, ↓b_rcv, ↓b_gI, ↓b_gL, ↓b_gR, ↓b_gN, ↓b_pI, ↓b_pL, ↓b_pR, ↓b_gAI, ↓b_gAL, ↓b_gAR, ↓b_pAI, ↓b_pAL, bad_of, bad_l, Bool.false_eq_true, ↓reduceIte, Int32.reduceLT, Int32.reduceLE, Int32.reduceToNatClampNeg, Int32.reduceOfNat, Int32.reduceAdd, Int32.reduceSub, Int32.reduceMul, Nat.reduceAdd, Nat.reduceMul, Nat.reduceEqDiff]
            rw [mX11_set_b43]
            simp (maxSteps := 3000000) (disch := omega) only [lK0 L, e_Iself, e_K_sI, e_R_sI, e_N_sI, e5, n10, lR0_5 L, lK184 L, lN184 L, cl, bd, ↓o_bind, o_map, ↓b_rcv, ↓b_gI, ↓b_gL, ↓b_gR, ↓b_gN, ↓b_pI, ↓b_pL, ↓b_pR, ↓b_gAI, ↓b_gAL, ↓b_gAR, ↓b_pAI, ↓b_pAL, bad_of, bad_l, Bool.false_eq_true, ↓reduceIte, Int32.reduceLT, Int32.reduceLE, Int32.reduceToNatClampNeg, Int32.reduceOfNat, Int32.reduceAdd, Int32.reduceSub, Int32.reduceMul, Nat.reduceAdd, Nat.reduceMul, Nat.reduceEqDiff]
          · have R2 := R.th 0
            have M := R2.1.1
            have f1 := R2.bkS hb
            have e4 : mX16_in (sI h1 m 0 0) v 1 20 = some 1 := by rw [q_in, if_pos hv]
            have e6 : mX16_in (sI h1 m 0 0) 0 0 3 = some 1 := by rw [q_in, if_pos a0]
            have e7 := q_granted (h := sI (sI h1 m 0 0) m 37 v) M
            refine ⟨_, ?_, (R2.st0 v).tb (t := 0) (by decide), ((Om.th 0).tr (Om.I 37 v)).tr Om.tb⟩
            simp (maxSteps := 3000000) (disch := omega) only [mX16_set, mX16_set_b38, mX16_set_b70, mX16_set_b125, qK0 R.1.1, qK0 M, f1, e6, n10, m0, m1, m2, m3, e4, e_K_sI, e7, rB1, ↓o_bind, o_map, ↓b_rcv, ↓b_gI, ↓b_gL, ↓b_gR, ↓b_gN, ↓b_pI, ↓b_pL, ↓b_pR, ↓b_gAI, ↓b_gAL, ↓b_gAR, ↓b_pAI, ↓b_pAL, bad_of, bad_l, Bool.false_eq_true, ↓reduceIte, Int32.reduceLT, Int32.reduceLE, Int32.reduceToNatClampNeg, Int32.reduceOfNat, Int32.reduceAdd, Int32.reduceSub, Int32.reduceMul, Nat.reduceAdd, Nat.reduceMul, Nat.reduceEqDiff]
        · refine no _ _ s1 s2 hv (fun h1 R => ?_)
          have R2 := R.th 0
          have M := R2.1.1
          have f1 := R2.bkS hb
          have e4 : mX16_in (sI h1 m 0 0) v 1 20 = some 0 := by rw [q_in, if_neg hv]
          have e6 : mX16_in (sI h1 m 0 0) 0 0 3 = some 1 := by rw [q_in, if_pos a0]
          have e7 := q_denied M 2
          simp (maxSteps := 3000000) (disch := omega) only [mX16_set, mX16_set_b38, mX16_set_b70, qK0 R.1.1, qK0 M, f1, e6, n10, m0, m1, m2, m3, e4, e7, rB0, ↓o_bind, o_map, ↓b_rcv, ↓b_gI, ↓b_gL, ↓b_gR, ↓b_gN, ↓b_pI, ↓b_pL, ↓b_pR, ↓b_gAI, ↓b_gAL, ↓b_gAR, ↓b_pAI, ↓b_pAL, bad_of, bad_l, Bool.false_eq_true, ↓reduceIte, Int32.reduceLT, Int32.reduceLE, Int32.reduceToNatClampNeg, Int32.reduceOfNat, Int32.reduceAdd, Int32.reduceSub, Int32.reduceMul, Nat.reduceAdd, Nat.reduceMul, Nat.reduceEqDiff]

      
      · have s1 : stL 1 1 = some 1 := rfl
        have s2 : stL 2 1 = some 50 := rfl
        have a0 : (0 : Int32) ≤ 1 ∧ (1 : Int32) ≤ 3 := by decide
        have m0 : (1 : Int32) = 0 ↔ False := by decide
        have m1 : (1 : Int32) = 1 ↔ True := by decide
        have m2 : (1 : Int32) = 2 ↔ False := by decide
        have m3 : (1 : Int32) = 3 ↔ False := by decide
        by_cases hv : (1 : Int32) ≤ v ∧ v ≤ 50
        · refine ⟨1, setS (tb A 0) 7 v, (W.tb (t := 0)).st1 hv, ⟨sAI (sI h c 15 0) (c + 184) (va_up (hAI (sI h c 15 0) (c + 184)) 1 v), ?_, CR.st1 (W.tb (t := 0)) (C.tb (by decide)) v, (Oc.I0 15 0).tr (Oc.AI 184 _ (by omega))⟩, fun h1 R => ?_⟩
          · have e4 : mX11_isWithin h v 1 50 = some 1 := by rw [p_within, if_pos hv]
            have e5 : ∀ h : MHp, mX11_isWithin h 1 0 3 = some 1 := fun h => by rw [p_within, if_pos a0]
            have cl : (1 : Int32).toNatClampNeg = 1 := rfl
            have bd : bad 1 4 = false := by decide
            simp (maxSteps := 3000000) (disch := omega) only [mX11_set, lK0 L, e1, n10, e5, s1, s2, e4, ↓o_bind, o_map, ↓b_rcv, ↓b_gI, ↓b_gL, ↓b_gR, ↓b_gN, ↓b_pI, ↓b_pL, ↓b_pR, ↓b_gAI, ↓b_gAL, ↓b_gAR, ↓b_pAI, ↓b_pAL, bad_of, bad_l, Bool.false_eq_true, ↓reduceIte, Int32.reduceLT, Int32.reduceLE, Int32.reduceToNatClampNeg, Int32.reduceOfNat, Int32.reduceAdd, Int32.reduceSub, Int32.reduceMul, Nat.reduceAdd, Nat.reduceMul, Nat.reduceEqDiff]
            rw [mX11_set_b43]
            simp (maxSteps := 3000000) (disch := omega) only [lK0 L, e_Iself, e_K_sI, e_R_sI, e_N_sI, e5, n10, lR0_5 L, lK184 L, lN184 L, cl, bd, ↓o_bind, o_map, ↓b_rcv, ↓b_gI, ↓b_gL, ↓b_gR, ↓b_gN, ↓b_pI, ↓b_pL, ↓b_pR, ↓b_gAI, ↓b_gAL, ↓b_gAR, ↓b_pAI, ↓b_pAL, bad_of, bad_l, Bool.false_eq_true, ↓reduceIte, Int32.reduceLT, Int32.reduceLE, Int32.reduceToNatClampNeg, Int32.reduceOfNat, Int32.reduceAdd, Int32.reduceSub, Int32.reduceMul, Nat.reduceAdd, Nat.reduceMul, Nat.reduceEqDiff]
          · have R2 := R.th 0
            have M := R2.1.1
            have f1 := R2.bkS hb
            have e4 : mX16_in (sI h1 m 0 0) v 1 50 = some 1 := by rw [q_in, if_pos hv]
            have e6 : mX16_in (sI h1 m 0 0) 1 0 3 = some 1 := by rw [q_in, if_pos a0]
            have e7 := q_granted (h := sI (sI h1 m 0 0) m 38 v) M
            refine ⟨_, ?_, (R2.st1 v).tb (t := 0) (by decide), ((Om.th 0).tr (Om.I 38 v)).tr Om.tb⟩
            simp (maxSteps := 3000000) (disch := omega) only [mX16_set, mX16_set_b38, mX16_set_b70, mX16_set_b125, qK0 R.1.1, qK0 M, f1, e6, n10, m0, m1, m2, m3, e4, e_K_sI, e7, rB1, ↓o_bind, o_map, ↓b_rcv, ↓b_gI, ↓b_gL, ↓b_gR, ↓b_gN, ↓b_pI, ↓b_pL, ↓b_pR, ↓b_gAI, ↓b_gAL, ↓b_gAR, ↓b_pAI, ↓b_pAL, bad_of, bad_l, Bool.false_eq_true, ↓reduceIte, Int32.reduceLT, Int32.reduceLE, Int32.reduceToNatClampNeg, Int32.reduceOfNat, Int32.reduceAdd, Int32.reduceSub, Int32.reduceMul, Nat.reduceAdd, Nat.reduceMul, Nat.reduceEqDiff]
        · refine no _ _ s1 s2 hv (fun h1 R => ?_)
          have R2 := R.th 0
          have M := R2.1.1
          have f1 := R2.bkS hb
          have e4 : mX16_in (sI h1 m 0 0) v 1 50 = some 0 := by rw [q_in, if_neg hv]
          have e6 : mX16_in (sI h1 m 0 0) 1 0 3 = some 1 := by rw [q_in, if_pos a0]
          have e7 := q_denied M 2
          simp (maxSteps := 3000000) (disch := omega) only [mX16_set, mX16_set_b38, mX16_set_b70, qK0 R.1.1, qK0 M, f1, e6, n10, m0, m1, m2, m3, e4, e7, rB0, ↓o_bind, o_map, ↓b_rcv, ↓b_gI, ↓b_gL, ↓b_gR, ↓b_gN, ↓b_pI, ↓b_pL, ↓b_pR, ↓b_gAI, ↓b_gAL, ↓b_gAR, ↓b_pAI, ↓b_pAL, bad_of, bad_l, Bool.false_eq_true, ↓reduceIte, Int32.reduceLT, Int32.reduceLE, Int32.reduceToNatClampNeg, Int32.reduceOfNat, Int32.reduceAdd, Int32.reduceSub, Int32.reduceMul, Nat.reduceAdd, Nat.reduceMul, Nat.reduceEqDiff]

      
      · have s1 : stL 1 2 = some 1 := rfl
        have s2 : stL 2 2 = some 99 := rfl
        have a0 : (0 : Int32) ≤ 2 ∧ (2 : Int32) ≤ 3 := by decide
        have m0 : (2 : Int32) = 0 ↔ False := by decide
        have m1 : (2 : Int32) = 1 ↔ False := by decide
        have m2 : (2 : Int32) = 2 ↔ True := by decide
        have m3 : (2 : Int32) = 3 ↔ False := by decide
        by_cases hv : (1 : Int32) ≤ v ∧ v ≤ 99
        · refine ⟨1, setS (tb A 0) 8 v, (W.tb (t := 0)).st2 hv, ⟨sAI (sI h c 15 0) (c + 184) (va_up (hAI (sI h c 15 0) (c + 184)) 2 v), ?_, CR.st2 (W.tb (t := 0)) (C.tb (by decide)) v, (Oc.I0 15 0).tr (Oc.AI 184 _ (by omega))⟩, fun h1 R => ?_⟩
          · have e4 : mX11_isWithin h v 1 99 = some 1 := by rw [p_within, if_pos hv]
            have e5 : ∀ h : MHp, mX11_isWithin h 2 0 3 = some 1 := fun h => by rw [p_within, if_pos a0]
            have cl : (2 : Int32).toNatClampNeg = 2 := rfl
            have bd : bad 2 4 = false := by decide
            simp (maxSteps := 3000000) (disch := omega) only [mX11_set, lK0 L, e1, n10, e5, s1, s2, e4, ↓o_bind, o_map, ↓b_rcv, ↓b_gI, ↓b_gL, ↓b_gR, ↓b_gN, ↓b_pI, ↓b_pL, ↓b_pR, ↓b_gAI, ↓b_gAL, ↓b_gAR, ↓b_pAI, ↓b_pAL, bad_of, bad_l, Bool.false_eq_true, ↓reduceIte, Int32.reduceLT, Int32.reduceLE, Int32.reduceToNatClampNeg, Int32.reduceOfNat, Int32.reduceAdd, Int32.reduceSub, Int32.reduceMul, Nat.reduceAdd, Nat.reduceMul, Nat.reduceEqDiff]
            rw [mX11_set_b43]
            simp (maxSteps := 3000000) (disch := omega) only [lK0 L, e_Iself, e_K_sI, e_R_sI, e_N_sI, e5, n10, lR0_5 L, lK184 L, lN184 L, cl, bd, ↓o_bind, o_map, ↓b_rcv, ↓b_gI, ↓b_gL, ↓b_gR, ↓b_gN, ↓b_pI, ↓b_pL, ↓b_pR, ↓b_gAI, ↓b_gAL, ↓b_gAR, ↓b_pAI, ↓b_pAL, bad_of, bad_l, Bool.false_eq_true, ↓reduceIte, Int32.reduceLT, Int32.reduceLE, Int32.reduceToNatClampNeg, Int32.reduceOfNat, Int32.reduceAdd, Int32.reduceSub, Int32.reduceMul, Nat.reduceAdd, Nat.reduceMul, Nat.reduceEqDiff]
          · have R2 := R.th 0
            have M := R2.1.1
            have f1 := R2.bkS hb
            have e4 : mX16_in (sI h1 m 0 0) v 1 99 = some 1 := by rw [q_in, if_pos hv]
            have e6 : mX16_in (sI h1 m 0 0) 2 0 3 = some 1 := by rw [q_in, if_pos a0]
            have e7 := q_granted (h := sI (sI h1 m 0 0) m 39 v) M
            refine ⟨_, ?_, (R2.st2 v).tb (t := 0) (by decide), ((Om.th 0).tr (Om.I 39 v)).tr Om.tb⟩
            simp (maxSteps := 3000000) (disch := omega) only [mX16_set, mX16_set_b38, mX16_set_b70, mX16_set_b125, qK0 R.1.1, qK0 M, f1, e6, n10, m0, m1, m2, m3, e4, e_K_sI, e7, rB1, ↓o_bind, o_map, ↓b_rcv, ↓b_gI, ↓b_gL, ↓b_gR, ↓b_gN, ↓b_pI, ↓b_pL, ↓b_pR, ↓b_gAI, ↓b_gAL, ↓b_gAR, ↓b_pAI, ↓b_pAL, bad_of, bad_l, Bool.false_eq_true, ↓reduceIte, Int32.reduceLT, Int32.reduceLE, Int32.reduceToNatClampNeg, Int32.reduceOfNat, Int32.reduceAdd, Int32.reduceSub, Int32.reduceMul, Nat.reduceAdd, Nat.reduceMul, Nat.reduceEqDiff]
        · refine no _ _ s1 s2 hv (fun h1 R => ?_)
          have R2 := R.th 0
          have M := R2.1.1
          have f1 := R2.bkS hb
          have e4 : mX16_in (sI h1 m 0 0) v 1 99 = some 0 := by rw [q_in, if_neg hv]
          have e6 : mX16_in (sI h1 m 0 0) 2 0 3 = some 1 := by rw [q_in, if_pos a0]
          have e7 := q_denied M 2
          simp (maxSteps := 3000000) (disch := omega) only [mX16_set, mX16_set_b38, mX16_set_b70, qK0 R.1.1, qK0 M, f1, e6, n10, m0, m1, m2, m3, e4, e7, rB0, ↓o_bind, o_map, ↓b_rcv, ↓b_gI, ↓b_gL, ↓b_gR, ↓b_gN, ↓b_pI, ↓b_pL, ↓b_pR, ↓b_gAI, ↓b_gAL, ↓b_gAR, ↓b_pAI, ↓b_pAL, bad_of, bad_l, Bool.false_eq_true, ↓reduceIte, Int32.reduceLT, Int32.reduceLE, Int32.reduceToNatClampNeg, Int32.reduceOfNat, Int32.reduceAdd, Int32.reduceSub, Int32.reduceMul, Nat.reduceAdd, Nat.reduceMul, Nat.reduceEqDiff]

      
      · have s1 : stL 1 3 = some 0 := rfl
        have s2 : stL 2 3 = some 1000 := rfl
        have a0 : (0 : Int32) ≤ 3 ∧ (3 : Int32) ≤ 3 := by decide
        have m0 : (3 : Int32) = 0 ↔ False := by decide
        have m1 : (3 : Int32) = 1 ↔ False := by decide
        have m2 : (3 : Int32) = 2 ↔ False := by decide
        have m3 : (3 : Int32) = 3 ↔ True := by decide
        by_cases hv : (0 : Int32) ≤ v ∧ v ≤ 1000
        · refine ⟨1, setS (tb A 0) 9 v, (W.tb (t := 0)).st3 hv, ⟨sAI (sI h c 15 0) (c + 184) (va_up (hAI (sI h c 15 0) (c + 184)) 3 v), ?_, CR.st3 (W.tb (t := 0)) (C.tb (by decide)) v, (Oc.I0 15 0).tr (Oc.AI 184 _ (by omega))⟩, fun h1 R => ?_⟩
          · have e4 : mX11_isWithin h v 0 1000 = some 1 := by rw [p_within, if_pos hv]
            have e5 : ∀ h : MHp, mX11_isWithin h 3 0 3 = some 1 := fun h => by rw [p_within, if_pos a0]
            have cl : (3 : Int32).toNatClampNeg = 3 := rfl
            have bd : bad 3 4 = false := by decide
            simp (maxSteps := 3000000) (disch := omega) only [mX11_set, lK0 L, e1, n10, e5, s1, s2, e4, ↓o_bind, o_map, ↓b_rcv, ↓b_gI, ↓b_gL, ↓b_gR, ↓b_gN, ↓b_pI, ↓b_pL, ↓b_pR, ↓b_gAI, ↓b_gAL, ↓b_gAR, ↓b_pAI, ↓b_pAL, bad_of, bad_l, Bool.false_eq_true, ↓reduceIte, Int32.reduceLT, Int32.reduceLE, Int32.reduceToNatClampNeg, Int32.reduceOfNat, Int32.reduceAdd, Int32.reduceSub, Int32.reduceMul, Nat.reduceAdd, Nat.reduceMul, Nat.reduceEqDiff]
            rw [mX11_set_b43]
            simp (maxSteps := 3000000) (disch := omega) only [lK0 L, e_Iself, e_K_sI, e_R_sI, e_N_sI, e5, n10, lR0_5 L, lK184 L, lN184 L, cl, bd, ↓o_bind, o_map, ↓b_rcv, ↓b_gI, ↓b_gL, ↓b_gR, ↓b_gN, ↓b_pI, ↓b_pL, ↓b_pR, ↓b_gAI, ↓b_gAL, ↓b_gAR, ↓b_pAI, ↓b_pAL, bad_of, bad_l, Bool.false_eq_true, ↓reduceIte, Int32.reduceLT, Int32.reduceLE, Int32.reduceToNatClampNeg, Int32.reduceOfNat, Int32.reduceAdd, Int32.reduceSub, Int32.reduceMul, Nat.reduceAdd, Nat.reduceMul, Nat.reduceEqDiff]
          · have R2 := R.th 0
            have M := R2.1.1
            have f1 := R2.bkS hb
            have e4 : mX16_in (sI h1 m 0 0) v 0 1000 = some 1 := by rw [q_in, if_pos hv]
            have e6 : mX16_in (sI h1 m 0 0) 3 0 3 = some 1 := by rw [q_in, if_pos a0]
            have e7 := q_granted (h := sI (sI h1 m 0 0) m 40 v) M
            refine ⟨_, ?_, (R2.st3 v).tb (t := 0) (by decide), ((Om.th 0).tr (Om.I 40 v)).tr Om.tb⟩
            simp (maxSteps := 3000000) (disch := omega) only [mX16_set, mX16_set_b38, mX16_set_b70, mX16_set_b125, qK0 R.1.1, qK0 M, f1, e6, n10, m0, m1, m2, m3, e4, e_K_sI, e7, rB1, ↓o_bind, o_map, ↓b_rcv, ↓b_gI, ↓b_gL, ↓b_gR, ↓b_gN, ↓b_pI, ↓b_pL, ↓b_pR, ↓b_gAI, ↓b_gAL, ↓b_gAR, ↓b_pAI, ↓b_pAL, bad_of, bad_l, Bool.false_eq_true, ↓reduceIte, Int32.reduceLT, Int32.reduceLE, Int32.reduceToNatClampNeg, Int32.reduceOfNat, Int32.reduceAdd, Int32.reduceSub, Int32.reduceMul, Nat.reduceAdd, Nat.reduceMul, Nat.reduceEqDiff]
        · refine no _ _ s1 s2 hv (fun h1 R => ?_)
          have R2 := R.th 0
          have M := R2.1.1
          have f1 := R2.bkS hb
          have e4 : mX16_in (sI h1 m 0 0) v 0 1000 = some 0 := by rw [q_in, if_neg hv]
          have e6 : mX16_in (sI h1 m 0 0) 3 0 3 = some 1 := by rw [q_in, if_pos a0]
          have e7 := q_denied M 2
          simp (maxSteps := 3000000) (disch := omega) only [mX16_set, mX16_set_b38, mX16_set_b70, qK0 R.1.1, qK0 M, f1, e6, n10, m0, m1, m2, m3, e4, e7, rB0, ↓o_bind, o_map, ↓b_rcv, ↓b_gI, ↓b_gL, ↓b_gR, ↓b_gN, ↓b_pI, ↓b_pL, ↓b_pR, ↓b_gAI, ↓b_gAL, ↓b_gAR, ↓b_pAI, ↓b_pAL, bad_of, bad_l, Bool.false_eq_true, ↓reduceIte, Int32.reduceLT, Int32.reduceLE, Int32.reduceToNatClampNeg, Int32.reduceOfNat, Int32.reduceAdd, Int32.reduceSub, Int32.reduceMul, Nat.reduceAdd, Nat.reduceMul, Nat.reduceEqDiff]

    · refine XS.no (v := 0) 1 (by decide) C W (fun _ _ => Or.inr trivial) ?_ (fun h1 R => ⟨sI h1 m 0 0, Rs.I 0 0 (by decide), ?_⟩)
      · have e9 := set_b L w v 1 n10
        simp (maxSteps := 3000000) (disch := omega) only [mX11_set, mX11_set_b17, lK0 L, e1, n10, p_within, hw, e9, ↓o_bind, o_map, ↓b_rcv, ↓b_gI, ↓b_gL, ↓b_gR, ↓b_gN, ↓b_pI, ↓b_pL, ↓b_pR, ↓b_gAI, ↓b_gAL, ↓b_gAR, ↓b_pAI, ↓b_pAL, bad_of, bad_l, Bool.false_eq_true, ↓reduceIte, Int32.reduceLT, Int32.reduceLE, Int32.reduceToNatClampNeg, Int32.reduceOfNat, Int32.reduceAdd, Int32.reduceSub, Int32.reduceMul, Nat.reduceAdd, Nat.reduceMul, Nat.reduceEqDiff]
      · have R2 := R.th 0
        have M := R2.1.1
        have f1 := R2.bkS hb
        have e4 : mX16_in (sI h1 m 0 0) w 0 3 = some 0 := by rw [q_in, if_neg hw]
        have e5 := q_denied M 1
        simp (maxSteps := 3000000) (disch := omega) only [mX16_set, mX16_set_b21, qK0 R.1.1, qK0 M, f1, e4, e5, rB0, ↓o_bind, o_map, ↓b_rcv, ↓b_gI, ↓b_gL, ↓b_gR, ↓b_gN, ↓b_pI, ↓b_pL, ↓b_pR, ↓b_gAI, ↓b_gAL, ↓b_gAR, ↓b_pAI, ↓b_pAL, bad_of, bad_l, Bool.false_eq_true, ↓reduceIte, Int32.reduceLT, Int32.reduceLE, Int32.reduceToNatClampNeg, Int32.reduceOfNat, Int32.reduceAdd, Int32.reduceSub, Int32.reduceMul, Nat.reduceAdd, Nat.reduceMul, Nat.reduceEqDiff]

/-! lot -/
def ltA (A : AS) (v : Int32) : AS := setN (setA A 12 (va_up (aA A 12) (aN A 3) v)) 3 (aN A 3 + 1)
theorem WA.lt {A : AS} (W : WA A) {v : Int32} (hb : ¬ bF (aB A) = 0) (h3 : aN A 3 < 100) : WA (ltA A v) := by
  obtain ⟨v1, v2, v3, v4, v5, v6, v7, v8⟩ := W
  exact ⟨v1, v2, v3, v4, by show aN A 3 + 1 ≤ 100; omega, v6, fun h0 => absurd h0 hb, v8⟩

theorem CR.lt {c : Nat} {h : MHp} {A : AS} (W : WA A) (C : CR c h A) (v : Int32) (hd : Nat) (hd1 : hd < 100) (hd2 : hI h (c + 206) 2 = Int32.ofNat hd) (hd3 : ∀ k : Nat, k < aN A 3 → hAI h (c + 207) ((hd + k) % 100) = aA A 12 k) (h3 : aN A 3 < 100) : CR c (sI (sAI h (c + 207) (va_up (hAI h (c + 207)) ((hd + aN A 3) % 100) v)) (c + 206) 0 (Int32.ofNat (aN A 3 + 1))) (ltA A v) := by
  have h8 := W.2.2.1
  have hw := W.1.2.1
  obtain ⟨⟨b9, s9, x1, x2, x3, x4, x5, x6⟩, ⟨y1, y2, y3, y4, y5, y6, y7, y8, y9⟩, ⟨z1, z2, z3, z4, z5, z6, z7, z8, z9, z10, z11, z12⟩, w1, w2, w3, w4⟩ := C
  have gI : ∀ a j : Nat, (a ≠ (c + 206) ∨ j ≠ 0) → hI (sI (sAI h (c + 207) (va_up (hAI h (c + 207)) ((hd + aN A 3) % 100) v)) (c + 206) 0 (Int32.ofNat (aN A 3 + 1))) a j = hI h a j := by
    intro a j d
    rw [e_sI, if_neg (by omega)]
    rw [e_I_sAI]
  have ga : ∀ a : Nat, a ≠ (c + 207) → hAI (sI (sAI h (c + 207) (va_up (hAI h (c + 207)) ((hd + aN A 3) % 100) v)) (c + 206) 0 (Int32.ofNat (aN A 3 + 1))) a = hAI h a := by
    intro a d
    rw [e_AI_sI]
    rw [e_sAI, if_neg (by omega)]
  have ag9 : ∀ lo hi : Nat, ((c + 206) < lo ∨ hi ≤ (c + 206)) ∧ ((c + 207) < lo ∨ hi ≤ (c + 207)) → Ag lo hi h (sI (sAI h (c + 207) (va_up (hAI h (c + 207)) ((hd + aN A 3) % 100) v)) (c + 206) 0 (Int32.ofNat (aN A 3 + 1))) := fun lo hi d => (Ag.AI _ _ (by omega)).tr (Ag.I _ _ _ (by omega))
  refine ⟨⟨b9, s9, x1, x2, x3, x4, x5.ag (ag9 _ _ (by omega)) hw, x6⟩, ⟨(by rw [gI _ _ (by omega)]; exact y1), (by rw [gI _ _ (by omega)]; exact y2), (by rw [gI _ _ (by omega)]; exact y3), (by rw [gI _ _ (by omega)]; exact y4), (by rw [gI _ _ (by omega)]; exact y5), (by rw [gI _ _ (by omega)]; exact y6), (by rw [gI _ _ (by omega)]; exact y7), (by rw [gI _ _ (by omega)]; exact y8), (by rw [gI _ _ (by omega)]; exact y9)⟩, ⟨(by rw [ga _ (by omega)]; exact z1), (by rw [ga _ (by omega)]; exact z2), (by rw [ga _ (by omega)]; exact z3), (by rw [ga _ (by omega)]; exact z4), (by rw [ga _ (by omega)]; exact z5), (by rw [ga _ (by omega)]; exact z6), (by rw [ga _ (by omega)]; exact z7), (by rw [ga _ (by omega)]; exact z8), (by rw [ga _ (by omega)]; exact z9), (by rw [ga _ (by omega)]; exact z10), (by rw [ga _ (by omega)]; exact z11), (by rw [ga _ (by omega)]; exact z12)⟩, (by rw [ga _ (by omega), ga _ (by omega)]; exact w1), (by rw [ga _ (by omega)]; exact w2), ?_, fun k9 hk => (fun (hk2 : k9 < aN A 1) => ⟨(w4 k9 hk2).1.ag (ag9 _ _ (by omega)), (w4 k9 hk2).2.ag (ag9 _ _ (by omega))⟩) hk⟩
  · refine ⟨hd, hd1, by rw [e_sI, if_pos ⟨rfl, rfl⟩]; rfl, by rw [gI _ _ (by omega)]; exact hd2, fun k hk => ?_⟩
    have hk2 : k < aN A 3 + 1 := hk
    show hAI (sI (sAI h (c + 207) (va_up (hAI h (c + 207)) ((hd + aN A 3) % 100) v)) (c + 206) 0 (Int32.ofNat (aN A 3 + 1))) (c + 207) ((hd + k) % 100) = va_up (aA A 12) (aN A 3) v k
    rw [e_AI_sI, e_sAI, if_pos rfl, e_up, e_up]
    by_cases q : k = aN A 3
    · rw [if_pos q, if_pos (by rw [q])]
    · rw [if_neg q, if_neg (by omega)]; exact hd3 k (by omega)

theorem RR.lt {m : Nat} {h : MHp} {A : AS} (C : RR m h A) (v : Int32) : RR m (sI (sAI h (m + 24) (va_up (hAI h (m + 24)) (aN A 3) v)) m 49 (Int32.ofNat (aN A 3 + 1))) (ltA A v) := by
  obtain ⟨x, ⟨y1, y2, y3, y4, y5, y6, y7, y8, y9, y10, y11, y12, y13, y14⟩, ⟨z1, z2, z3, z4, z5, z6, z7, z8, z9⟩, w1, w2, w3⟩ := C
  have gI : ∀ a j : Nat, (a ≠ m ∨ j ≠ 49) → hI (sI (sAI h (m + 24) (va_up (hAI h (m + 24)) (aN A 3) v)) m 49 (Int32.ofNat (aN A 3 + 1))) a j = hI h a j := by
    intro a j d
    rw [e_sI, if_neg (by omega)]
    rw [e_I_sAI]
  have ga : ∀ a : Nat, a ≠ (m + 24) → hAI (sI (sAI h (m + 24) (va_up (hAI h (m + 24)) (aN A 3) v)) m 49 (Int32.ofNat (aN A 3 + 1))) a = hAI h a := by
    intro a d
    rw [e_AI_sI]
    rw [e_sAI, if_neg (by omega)]
  have ag9 : ∀ lo hi : Nat, (m < lo ∨ hi ≤ m) ∧ ((m + 24) < lo ∨ hi ≤ (m + 24)) → Ag lo hi h (sI (sAI h (m + 24) (va_up (hAI h (m + 24)) (aN A 3) v)) m 49 (Int32.ofNat (aN A 3 + 1))) := fun lo hi d => (Ag.AI _ _ (by omega)).tr (Ag.I _ _ _ (by omega))
  refine ⟨x.ag (ag9 _ _ (by omega)) (Nat.le_refl _) x.1 rfl, ⟨(by rw [gI _ _ (by omega)]; exact y1), (by rw [gI _ _ (by omega)]; exact y2), (by rw [gI _ _ (by omega)]; exact y3), (by rw [e_sI, if_pos ⟨rfl, rfl⟩]; rfl), (by rw [gI _ _ (by omega)]; exact y5), (by rw [gI _ _ (by omega)]; exact y6), (by rw [gI _ _ (by omega)]; exact y7), (by rw [gI _ _ (by omega)]; exact y8), (by rw [gI _ _ (by omega)]; exact y9), (by rw [gI _ _ (by omega)]; exact y10), (by rw [gI _ _ (by omega)]; exact y11), (by rw [gI _ _ (by omega)]; exact y12), (by rw [gI _ _ (by omega)]; exact y13), (by rw [gI _ _ (by omega)]; exact y14)⟩, ⟨(by rw [ga _ (by omega)]; exact z1), (by rw [ga _ (by omega)]; exact z2), (by rw [ga _ (by omega)]; exact z3), (by rw [ga _ (by omega)]; exact z4), (by rw [ga _ (by omega)]; exact z5), (by rw [ga _ (by omega), ga _ (by omega), ga _ (by omega)]; exact z6), (by rw [ga _ (by omega)]; exact z7), (by rw [ga _ (by omega)]; exact z8), (by rw [ga _ (by omega)]; exact z9)⟩, (by rw [ga _ (by omega)]; exact w1), ?_, ?_⟩
  · intro k hk
    have hk2 : k < aN A 3 + 1 := hk
    show hAI (sI (sAI h (m + 24) (va_up (hAI h (m + 24)) (aN A 3) v)) m 49 (Int32.ofNat (aN A 3 + 1))) (m + 24) k = va_up (aA A 12) (aN A 3) v k
    rw [e_AI_sI, e_sAI, if_pos rfl, e_up, e_up]
    by_cases q : k = aN A 3
    · rw [if_pos q, if_pos q]
    · rw [if_neg q, if_neg q]; exact w2 k (by omega)
  · intro k hk
    obtain ⟨p, p1, p2, p3, p4⟩ := w3 k hk
    obtain ⟨-, -, -, -, ⟨p5, p6⟩, -⟩ := id p2
    exact ⟨p, p1, p2.ag (ag9 _ _ (by omega)) (Nat.le_refl _), p3.ag (ag9 _ _ (by omega)), p4⟩

theorem lot_b {c : Nat} {h : MHp} (L : CL c h) (a : Int32) (v : Int32) (hv : ¬ v = 0) : mX11_lot_b42 h c a (some c) v = some (-1, sI h c 15 v) := by
  have K : hK (sI h c 15 v) c = 12 := lK0 L
  rw [mX11_lot_b42, b_pI, if_pos (lK0 L), b_gI, if_pos K, e_Iself, if_neg hv]

theorem x_lot {c m : Nat} {h : MHp} {A : AS} (C : CR c h A) (W : WA A) (a : Int32) : XS c m h A (mX11_lot h c a) (fun h1 => mX16_lot h1 m a) := by
  have L := C.l
  have e1 := p_hasBook C W
  have h100 := W.2.2.2.2.1
  obtain ⟨hd, hd1, hd0, hd2, hd3⟩ := C.2.2.2.2.2.1
  by_cases hb : bF (aB A) = 0
  · rw [if_pos hb] at e1
    refine XS.no (v := -1) 1 (by decide) C W (fun _ _ => Or.inr trivial) ?_ (fun h1 R => ⟨sI h1 m 0 0, Rs.I 0 0 (by decide), ?_⟩)
    · rw [mX11_lot, b_rcv, if_pos (lK0 L), e1, o_bind, if_pos rfl, lot_b L _ 1 n10]
    · have R2 := R.th 0
      have M := R2.1.1
      have f1 := R2.bkN hb
      have e5 := q_refused M 1
      simp (maxSteps := 3000000) (disch := omega) only [mX16_lot, qK0 R.1.1, qK0 M, f1, e5, ↓o_bind, o_map, ↓b_rcv, ↓b_gI, ↓b_gL, ↓b_gR, ↓b_gN, ↓b_pI, ↓b_pL, ↓b_pR, ↓b_gAI, ↓b_gAL, ↓b_gAR, ↓b_pAI, ↓b_pAL, bad_of, bad_l, Bool.false_eq_true, ↓reduceIte, Int32.reduceLT, Int32.reduceLE, Int32.reduceToNatClampNeg, Int32.reduceOfNat, Int32.reduceAdd, Int32.reduceSub, Int32.reduceMul, Nat.reduceAdd, Nat.reduceMul, Nat.reduceEqDiff]
  · rw [if_neg hb] at e1
    by_cases hw : -9 ≤ a ∧ a ≤ 9
    · by_cases h3 : aN A 3 < 100
      · have c1 : Int32.ofNat (aN A 3) < 100 := by rw [show (100 : Int32) = Int32.ofNat 100 from rfl, lt_of (by omega) (by omega)]; omega
        have c2 : ¬ Int32.ofNat (aN A 3) = 100 := by rw [show (100 : Int32) = Int32.ofNat 100 from rfl, eq_of (by omega) (by omega)]; omega
        have md : (Int32.ofNat hd + Int32.ofNat (aN A 3)) - (Int32.ofNat hd + Int32.ofNat (aN A 3)) / 100 * 100 = Int32.ofNat ((hd + aN A 3) % 100) := by
          rw [← Int32.ofNat_add]
          exact md_of (a := hd + aN A 3) (b := 100) (by omega) (by omega)
        have c3 : ¬ Int32.ofNat ((hd + aN A 3) % 100) < 0 := by rw [nn_of (by omega)]; exact not_false
        have i0 : hI (sI h c 15 0) (c + 206) 0 = Int32.ofNat (aN A 3) := by rw [e_sI, if_neg (by omega)]; exact hd0
        have i2 : hI (sI h c 15 0) (c + 206) 2 = Int32.ofNat hd := by rw [e_sI, if_neg (by omega)]; exact hd2
        have hlt : (hd + aN A 3) % 100 < 100 := Nat.mod_lt _ (by omega)
        refine ⟨Int32.ofNat (aN A 3 + 1), ltA (tb A 0) a, (W.tb (t := 0)).lt hb h3, ⟨sI (sAI (sI h c 15 0) (c + 207) (va_up (hAI (sI h c 15 0) (c + 207)) ((hd + aN A 3) % 100) a)) (c + 206) 0 (Int32.ofNat (aN A 3 + 1)), ?_, CR.lt (W.tb (t := 0)) (C.tb (by decide)) a hd hd1 i2 hd3 h3, ((Oc.I0 15 0).tr (Oc.AI 207 _ (by omega))).tr (Oc.I 206 0 _ (by omega))⟩, fun h1 R => ?_⟩
        · have e2 : mX4_isFull h (c + 206) = some 0 := by rw [mX4_isFull, b_gI, if_pos (lK206 L), hd0, if_pos c1]
          have e3 : mX4_isFull (sI h c 15 0) (c + 206) = some 0 := by rw [mX4_isFull, b_gI, if_pos (show hK (sI h c 15 0) (c + 206) = 5 from lK206 L), i0, if_pos c1]
          have e4 : mX11_isWithin h a (-9) 9 = some 1 := by rw [p_within, if_pos hw]
          simp (maxSteps := 3000000) (disch := omega) only [mX11_lot, lK0 L, e1, n10, e4, lR0_11 L, lK206 L, e2, ↓o_bind, o_map, ↓b_rcv, ↓b_gI, ↓b_gL, ↓b_gR, ↓b_gN, ↓b_pI, ↓b_pL, ↓b_pR, ↓b_gAI, ↓b_gAL, ↓b_gAR, ↓b_pAI, ↓b_pAL, bad_of, bad_l, Bool.false_eq_true, ↓reduceIte, Int32.reduceLT, Int32.reduceLE, Int32.reduceToNatClampNeg, Int32.reduceOfNat, Int32.reduceAdd, Int32.reduceSub, Int32.reduceMul, Nat.reduceAdd, Nat.reduceMul, Nat.reduceEqDiff]
          rw [mX11_lot_b42]
          simp (maxSteps := 3000000) (disch := omega) only [mX4_add, lK0 L, e_Iself, e_K_sI, e_R_sI, lR0_11 L, lK206 L, i2, i0, e3, md, c3, lR206_1 L, lK207 L, e_N_sI, lN207 L, cl_of, e_I_sAI, e_K_sAI, s1_of, ↓o_bind, o_map, ↓b_rcv, ↓b_gI, ↓b_gL, ↓b_gR, ↓b_gN, ↓b_pI, ↓b_pL, ↓b_pR, ↓b_gAI, ↓b_gAL, ↓b_gAR, ↓b_pAI, ↓b_pAL, bad_of, bad_l, Bool.false_eq_true, ↓reduceIte, Int32.reduceLT, Int32.reduceLE, Int32.reduceToNatClampNeg, Int32.reduceOfNat, Int32.reduceAdd, Int32.reduceSub, Int32.reduceMul, Nat.reduceAdd, Nat.reduceMul, Nat.reduceEqDiff]
          rw [mX4_add_b41, b_gI, if_pos (show hK (sI (sAI (sI h c 15 0) (c + 207) (va_up (hAI (sI h c 15 0) (c + 207)) ((hd + aN A 3) % 100) a)) (c + 206) 0 (Int32.ofNat (aN A 3 + 1))) (c + 206) = 5 from lK206 L), e_Iself, o_bind]
        · have R2 := R.th 0
          have M := R2.1.1
          have f1 := R2.bkS hb
          have s4 := R2.2.1.2.2.2.1
          have e4 : mX16_in (sI h1 m 0 0) a (-9) 9 = some 1 := by rw [q_in, if_pos hw]
          have e5 := q_done (h := sI (sAI (sI h1 m 0 0) (m + 24) (va_up (hAI (sI h1 m 0 0) (m + 24)) (aN A 3) a)) m 49 (Int32.ofNat (aN A 3 + 1))) M (Int32.ofNat (aN A 3 + 1))
          refine ⟨_, ?_, (R2.lt a).tb (t := 0) (by decide), (((Om.th 0).tr (Om.AI _ _ (by omega))).tr (Om.I 49 _)).tr Om.tb⟩
          simp (maxSteps := 3000000) (disch := omega) only [mX16_lot, qK0 R.1.1, qK0 M, f1, e4, n10, s4, c2, qR50 M, qK24 M, qN24 M, cl_of, e_K_sAI, e_I_sAI, s1_of, e_Iself, ↓o_bind, o_map, ↓b_rcv, ↓b_gI, ↓b_gL, ↓b_gR, ↓b_gN, ↓b_pI, ↓b_pL, ↓b_pR, ↓b_gAI, ↓b_gAL, ↓b_gAR, ↓b_pAI, ↓b_pAL, bad_of, bad_l, Bool.false_eq_true, ↓reduceIte, Int32.reduceLT, Int32.reduceLE, Int32.reduceToNatClampNeg, Int32.reduceOfNat, Int32.reduceAdd, Int32.reduceSub, Int32.reduceMul, Nat.reduceAdd, Nat.reduceMul, Nat.reduceEqDiff]
          simp (maxSteps := 3000000) (disch := omega) only [e_K_sI, e_K_sAI, qK0 R.1.1, e5, ↓o_bind, o_map, ↓b_rcv, ↓b_gI, ↓b_gL, ↓b_gR, ↓b_gN, ↓b_pI, ↓b_pL, ↓b_pR, ↓b_gAI, ↓b_gAL, ↓b_gAR, ↓b_pAI, ↓b_pAL, bad_of, bad_l, Bool.false_eq_true, ↓reduceIte, Int32.reduceLT, Int32.reduceLE, Int32.reduceToNatClampNeg, Int32.reduceOfNat, Int32.reduceAdd, Int32.reduceSub, Int32.reduceMul, Nat.reduceAdd, Nat.reduceMul, Nat.reduceEqDiff]
      · have c1 : ¬ Int32.ofNat (aN A 3) < 100 := by rw [show (100 : Int32) = Int32.ofNat 100 from rfl, lt_of (by omega) (by omega)]; omega
        have c2 : Int32.ofNat (aN A 3) = 100 := by rw [show (100 : Int32) = Int32.ofNat 100 from rfl, eq_of (by omega) (by omega)]; omega
        refine XS.no (v := -1) 3 (by decide) C W (fun _ _ => Or.inr trivial) ?_ (fun h1 R => ⟨sI h1 m 0 0, Rs.I 0 0 (by decide), ?_⟩)
        · have e2 : mX4_isFull h (c + 206) = some 1 := by rw [mX4_isFull, b_gI, if_pos (lK206 L), hd0, if_neg c1]
          have e9 := lot_b L a 3 n30
          have e4 : mX11_isWithin h a (-9) 9 = some 1 := by rw [p_within, if_pos hw]
          simp (maxSteps := 3000000) (disch := omega) only [mX11_lot, lK0 L, e1, n10, e4, lR0_11 L, lK206 L, e2, e9, ↓o_bind, o_map, ↓b_rcv, ↓b_gI, ↓b_gL, ↓b_gR, ↓b_gN, ↓b_pI, ↓b_pL, ↓b_pR, ↓b_gAI, ↓b_gAL, ↓b_gAR, ↓b_pAI, ↓b_pAL, bad_of, bad_l, Bool.false_eq_true, ↓reduceIte, Int32.reduceLT, Int32.reduceLE, Int32.reduceToNatClampNeg, Int32.reduceOfNat, Int32.reduceAdd, Int32.reduceSub, Int32.reduceMul, Nat.reduceAdd, Nat.reduceMul, Nat.reduceEqDiff]
        · have R2 := R.th 0
          have M := R2.1.1
          have f1 := R2.bkS hb
          have s4 := R2.2.1.2.2.2.1
          rw [c2] at s4
          have e4 : mX16_in (sI h1 m 0 0) a (-9) 9 = some 1 := by rw [q_in, if_pos hw]
          have e5 := q_refused M 3
          simp (maxSteps := 3000000) (disch := omega) only [mX16_lot, qK0 R.1.1, qK0 M, f1, e4, n10, s4, e5, ↓o_bind, o_map, ↓b_rcv, ↓b_gI, ↓b_gL, ↓b_gR, ↓b_gN, ↓b_pI, ↓b_pL, ↓b_pR, ↓b_gAI, ↓b_gAL, ↓b_gAR, ↓b_pAI, ↓b_pAL, bad_of, bad_l, Bool.false_eq_true, ↓reduceIte, Int32.reduceLT, Int32.reduceLE, Int32.reduceToNatClampNeg, Int32.reduceOfNat, Int32.reduceAdd, Int32.reduceSub, Int32.reduceMul, Nat.reduceAdd, Nat.reduceMul, Nat.reduceEqDiff]
    · refine XS.no (v := -1) 2 (by decide) C W (fun _ _ => Or.inr trivial) ?_ (fun h1 R => ⟨sI h1 m 0 0, Rs.I 0 0 (by decide), ?_⟩)
      · have e9 := lot_b L a 2 n20
        have e4 : mX11_isWithin h a (-9) 9 = some 0 := by rw [p_within, if_neg hw]
        simp (maxSteps := 3000000) (disch := omega) only [mX11_lot, lK0 L, e1, n10, e4, e9, ↓o_bind, o_map, ↓b_rcv, ↓b_gI, ↓b_gL, ↓b_gR, ↓b_gN, ↓b_pI, ↓b_pL, ↓b_pR, ↓b_gAI, ↓b_gAL, ↓b_gAR, ↓b_pAI, ↓b_pAL, bad_of, bad_l, Bool.false_eq_true, ↓reduceIte, Int32.reduceLT, Int32.reduceLE, Int32.reduceToNatClampNeg, Int32.reduceOfNat, Int32.reduceAdd, Int32.reduceSub, Int32.reduceMul, Nat.reduceAdd, Nat.reduceMul, Nat.reduceEqDiff]
      · have R2 := R.th 0
        have M := R2.1.1
        have f1 := R2.bkS hb
        have e4 : mX16_in (sI h1 m 0 0) a (-9) 9 = some 0 := by rw [q_in, if_neg hw]
        have e5 := q_refused M 2
        simp (maxSteps := 3000000) (disch := omega) only [mX16_lot, qK0 R.1.1, qK0 M, f1, e4, e5, ↓o_bind, o_map, ↓b_rcv, ↓b_gI, ↓b_gL, ↓b_gR, ↓b_gN, ↓b_pI, ↓b_pL, ↓b_pR, ↓b_gAI, ↓b_gAL, ↓b_gAR, ↓b_pAI, ↓b_pAL, bad_of, bad_l, Bool.false_eq_true, ↓reduceIte, Int32.reduceLT, Int32.reduceLE, Int32.reduceToNatClampNeg, Int32.reduceOfNat, Int32.reduceAdd, Int32.reduceSub, Int32.reduceMul, Nat.reduceAdd, Nat.reduceMul, Nat.reduceEqDiff]

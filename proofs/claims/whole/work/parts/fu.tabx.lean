/-! table: both sides -/
/-- the state with a table more -/
def plA (A : AS) (k : Nat) (P : Pl) : AS := mkA (fun i => if i = 1 then k + 1 else aN A i) (aS A) (aA A) (aB A) (va_up (aP A) k P) (va_up (aT A) k (fun _ => none))
theorem WA.plA {A : AS} {k : Nat} {P : Pl} (W : WA A) (hk : aN A 1 = k) (k8 : k < 8) (WPP : WP (aB A) P) (hB : 0 < bF (aB A)) : WA (plA A k P) := by
  obtain ⟨v1, v2, v3, v4, v5, v6, v7, v8, v9, v10, v11⟩ := W
  refine ⟨v1, v2, (show k + 1 ≤ 8 by omega), v4, v5, fun j hj => ?_, fun e => absurd (show bF (aB A) = 0 from e) (by omega), v8, v9, v10, v11⟩
  have hj' : j < k + 1 := hj
  show WP (aB A) (va_up (aP A) k P j)
  rw [e_up]
  by_cases q : j = k
  · rw [if_pos q]; exact WPP
  · rw [if_neg q]; exact v6 j (by omega)
theorem CR.plA {c k : Nat} {h : MHp} {A : AS} {P : Pl} (W : WA A) (C : CR c h A) (hk : aN A 1 = k) (k8 : k < 8) (c1 : CP h (c + 120 + 7 * k) (aB A) P) (c2 : CX h (c + 120 + 7 * k) (fun _ => none)) : CR c (sI h c 14 (Int32.ofNat (k + 1))) (plA A k P) := by
  have hw := W.1.2.1
  obtain ⟨⟨b9, s9, x1, x2, x3, x4, x5, x6⟩, ⟨y1, y2, y3, y4, y5, y6, y7, y8, y9⟩, z, w1, w2, w3, w4⟩ := C
  have gI : ∀ a j : Nat, (a ≠ c ∨ j ≠ 14) → hI (sI h c 14 (Int32.ofNat (k + 1))) a j = hI h a j := by
    intro a j d
    rw [e_sI, if_neg (by omega)]
  have ag9 : ∀ lo hi : Nat, (c < lo ∨ hi ≤ c) → Ag lo hi h (sI h c 14 (Int32.ofNat (k + 1))) := fun lo hi d => Ag.I _ _ _ (by omega)
  refine ⟨⟨b9, s9, x1, x2, x3, x4, x5.ag (ag9 _ _ (by omega)) hw, x6⟩, ⟨?_, ?_, ?_, ?_, ?_, ?_, ?_, ?_, ?_⟩, z, w1, w2, ?_, fun j hj => ?_⟩
  · rw [gI _ _ (by omega)]; exact y1
  · rw [e_Iself]; rfl
  · rw [gI _ _ (by omega)]; exact y3
  · rw [gI _ _ (by omega)]; exact y4
  · rw [gI _ 2 (by omega)]; exact y5
  · rw [gI _ _ (by omega)]; exact y6
  · rw [gI _ _ (by omega)]; exact y7
  · rw [gI _ _ (by omega)]; exact y8
  · rw [gI _ _ (by omega)]; exact y9
  · rw [gI _ 0 (by omega), gI _ 2 (by omega)]; exact w3
  · have hj' : j < k + 1 := hj
    show CP _ _ (aB A) (va_up (aP A) k P j) ∧ CX _ _ (va_up (aT A) k (fun _ => none) j)
    rw [e_up, e_up]
    by_cases q : j = k
    · rw [if_pos q, if_pos q, q]
      exact ⟨c1.ag (ag9 _ _ (by omega)), c2.ag (ag9 _ _ (by omega))⟩
    · rw [if_neg q, if_neg q]
      exact ⟨(w4 j (by omega)).1.ag (ag9 _ _ (by omega)), (w4 j (by omega)).2.ag (ag9 _ _ (by omega))⟩
theorem RR.plA {m k p : Nat} {h : MHp} {A : AS} {P : Pl} (C : RR m h A) (hk : aN A 1 = k) (c1 : RP (m + 26) h p P) (c2 : RX h p (fun _ => none)) (sep : ∀ j q : Nat, j < k → hAR h (m + 1) j = some q → q + 4 ≤ p) : RR m (sI (sAR h (m + 1) (va_up (hAR h (m + 1)) k (some p))) m 7 (Int32.ofNat (k + 1))) (plA A k P) := by
  obtain ⟨x, ⟨y1, y2, y3, y4, y5, y6, y7, y8, y9, y10, y11, y12, y13, y14⟩, z, w1, w2, w3⟩ := C
  obtain ⟨Z, eZ⟩ : ∃ Z : MHp, Z = sI (sAR h (m + 1) (va_up (hAR h (m + 1)) k (some p))) m 7 (Int32.ofNat (k + 1)) := ⟨_, rfl⟩
  rw [← eZ]
  have gI : ∀ a j : Nat, (a ≠ m ∨ j ≠ 7) → hI Z a j = hI h a j := by
    intro a j d
    rw [eZ, e_sI, if_neg (by omega), e_I_sAR]
  have ag9 : ∀ lo hi : Nat, m + 1 < lo → Ag lo hi h Z := fun lo hi d => by
    rw [eZ]; exact (Ag.AR _ _ (by omega)).tr (Ag.I _ _ _ (by omega))
  have aAI : hAI Z = hAI h := by rw [eZ]; rfl
  have aR : hR Z = hR h := by rw [eZ]; rfl
  have aS' : hS Z = hS h := by rw [eZ]; rfl
  have aAR : hAR Z (m + 1) = va_up (hAR h (m + 1)) k (some p) := by
    rw [eZ]
    show hAR (sAR h (m + 1) _) (m + 1) = _
    rw [e_sAR, if_pos rfl]
  have LZ : QL m Z := by rw [eZ]; exact x.1
  refine ⟨RR0.ag (ag9 _ _ (by omega)) (by omega) LZ (by rw [aR]) x, ⟨?_, ?_, ?_, ?_, ?_, ?_, ?_, ?_, ?_, ?_, ?_, ?_, ?_, ?_⟩, ?_, ?_, ?_, fun j hj => ?_⟩
  · rw [gI _ _ (by omega)]; exact y1
  · rw [eZ, e_Iself]; rfl
  · rw [gI _ _ (by omega)]; exact y3
  · rw [gI _ _ (by omega)]; exact y4
  · rw [gI _ _ (by omega)]; exact y5
  · rw [gI _ _ (by omega)]; exact y6
  · rw [gI _ _ (by omega)]; exact y7
  · rw [gI _ _ (by omega)]; exact y8
  · rw [gI _ _ (by omega)]; exact y9
  · rw [gI _ _ (by omega)]; exact y10
  · rw [gI _ _ (by omega)]; exact y11
  · rw [gI _ _ (by omega)]; exact y12
  · rw [gI _ _ (by omega)]; exact y13
  · rw [gI _ _ (by omega)]; exact y14
  · unfold RR2
    rw [aAI]
    exact z
  · rw [aAI]; exact w1
  · rw [aAI]; exact w2
  · have hj' : j < k + 1 := hj
    have c1S := c1.2.2.2.2.1
    show ∃ p' : Nat, hAR Z (m + 1) j = some p' ∧ RP (m + 26) Z p' (va_up (aP A) k P j) ∧ RX Z p' (va_up (aT A) k (fun _ => none) j) ∧ ∀ i q : Nat, i < k + 1 → i ≠ j → hAR Z (m + 1) i = some q → p' + 4 ≤ q ∨ q + 4 ≤ p'
    rw [aAR, e_up, e_up, e_up]
    by_cases q : j = k
    · rw [if_pos q, if_pos q, if_pos q]
      refine ⟨p, rfl, c1.ag (ag9 _ _ (by omega)) (by omega), c2.ag (ag9 _ _ (by omega)), fun i r hi ne e => ?_⟩
      rw [e_up, if_neg (by omega)] at e
      exact Or.inr (sep i r (by omega) e)
    · rw [if_neg q, if_neg q, if_neg q]
      obtain ⟨p', p1, p2, p3, p4⟩ := w3 j (by omega)
      have p2S := p2.2.2.2.2.1
      refine ⟨p', p1, p2.ag (ag9 _ _ (by omega)) (by omega), p3.ag (ag9 _ _ (by omega)), fun i r hi ne e => ?_⟩
      rw [e_up] at e
      by_cases q2 : i = k
      · rw [if_pos q2] at e
        have := Option.some.inj e
        have := sep j p' (by omega) p1
        omega
      · rw [if_neg q2] at e
        exact p4 i r (by omega) ne e
theorem b_pAR2 {β : Type} (h : MHp) (a u : Nat) (i : Int32) (f : MHp → Option β) (k1 : hK h a = 26) (k2 : hK h u = 15) (bd : ¬ bad i (hN h a) = true) : (pAR 26 15 h (some a) i (some u)).bind f = f (sAR h a (va_up (hAR h a) i.toNatClampNeg (some u))) := by
  unfold pAR
  rw [b_inA, if_pos k1, if_neg bd, e_rcv, if_pos k2, o_map, o_bind]
theorem c_tabNo {c : Nat} {h : MHp} (L : CL c h) (a t : Int32) (ht : ¬ t = 0) : mX11_table_b25 h c a (some c) t = some (-1, sI h c 15 t) := by
  have K := lK0 L
  rw [mX11_table_b25, b_pI, if_pos K, b_gI, if_pos (by exact K), e_Iself, if_neg ht]
theorem c_table {c n : Nat} {h : MHp} {A : AS} (C : CR c h A) (W : WA A) (hB : 0 < bF (aB A)) (hn : n ≤ aN A 0) : (taF (aA A 0) n (aB A) (tokAt (aA A 0) n 0) ≠ 0 ∧ CS c h (mX11_table h c (Int32.ofNat n)) (-1) (fA A 4 (taF (aA A 0) n (aB A) (tokAt (aA A 0) n 0)) (Int32.ofNat (kS (taT (aA A 0) n (aB A) (tokAt (aA A 0) n 0)))))) ∨ taF (aA A 0) n (aB A) (tokAt (aA A 0) n 0) = 0 ∧ WP (aB A) (taP (aA A 0) n (aB A) (tokAt (aA A 0) n 0)) ∧ (aN A 1 < 8 → CS c h (mX11_table h c (Int32.ofNat n)) (Int32.ofNat (aN A 1)) (plA (fA A 0 0 0) (aN A 1) (taP (aA A 0) n (aB A) (tokAt (aA A 0) n 0)))) ∧ (¬ aN A 1 < 8 → CS c h (mX11_table h c (Int32.ofNat n)) (-1) (fA A 3 0 0)) := by
  have u5 := W.2.1
  have u8 := W.2.2.1
  have hb := p_hasBook C W
  rw [if_neg (by omega)] at hb
  obtain ⟨-, wl, -⟩ : WZ (aA A 0) (aB A) := W.2.2.2.2.2.2.2.2.2.2.2.2.2.2.2.2.2.2.2
  have C0 := C
  obtain ⟨⟨b, s, L, hbs, x3, x4, x5, x6⟩, y, z, -⟩ := C
  obtain ⟨k, ek⟩ : ∃ k : Nat, k = aN A 1 := ⟨_, rfl⟩
  have y2 := y.2.1
  rw [← ek] at u8 y2 ⊢
  obtain ⟨p, ep⟩ : ∃ p : Nat, p = c + 120 + 7 * k := ⟨_, rfl⟩
  obtain ⟨H1, e1⟩ : ∃ X : MHp, X = sI h c 15 0 := ⟨_, rfl⟩
  obtain ⟨H2, e2⟩ : ∃ X : MHp, X = sI H1 c 13 0 := ⟨_, rfl⟩
  have F2 : CF c p (p + 7) h H2 := by rw [e2, e1]; exact (CF.I0 15 _ (by omega)).tr (CF.I0 13 _ (by omega))
  have L1 : CL c H1 := by rw [e1]; exact L
  have L2 : CL c H2 := F2.cl L
  have g2 : hAI H2 (c + 1) = aA A 0 := by rw [e2, e1]; exact z.2.2.2.2.1
  have i15 : hI H1 c 15 = 0 := by rw [e1, e_Iself]
  have j14 : hI H1 c 14 = Int32.ofNat k := by rw [e1, e_sI, if_neg (by omega)]; exact y2
  have j14' : hI H2 c 14 = Int32.ofNat k := by rw [e2, e_sI, if_neg (by omega)]; exact j14
  have j13 : hI H2 c 13 = 0 := by rw [e2, e_Iself]
  have j15 : hI H2 c 15 = 0 := by rw [e2, e_sI, if_neg (by omega)]; exact i15
  have r5 : hR H2 (c + 56) 5 = some (c + b) := by rw [e2, e1]; exact x3
  obtain ⟨IP, ra⟩ := L2.p k (by omega)
  rw [← ep] at IP ra
  have n14 : ¬ Int32.ofNat k < 0 := nlt0 (by omega)
  have l9 : Int32.ofNat k < Int32.ofNat 9 := by rw [lt_of' (by omega) (by omega)]; omega
  have base : ∀ r : Int32 × MHp, mX8_readTable H2 (c + 55) (Int32.ofNat n) (some p) (some (c + b)) = some r → mX11_table h c (Int32.ofNat n) = (if r.1 = 0 then (pI 12 15 r.2 (some c) 4).bind fun h22 => some ((-1), h22) else (gI 12 14 r.2 (some c)).bind fun x16 => (if x16 < 8 then (gI 12 14 r.2 (some c)).bind fun x17 => (pI 12 14 r.2 (some c) (x17 + 1)).bind fun h18 => (gI 12 14 h18 (some c)).bind fun x19 => some ((x19 - 1), h18) else (pI 12 15 r.2 (some c) 3).bind fun h20 => some ((-1), h20))) := fun r e => by
    rw [mX11_table, b_rcv, if_pos (lK0 L), hb, o_bind, if_neg n10, b_rcv, if_pos (lK0 L), p_tape1 L y.1 u5 hn, o_bind, if_neg n10, mX11_table_b25, b_pI, if_pos (lK0 L), ← e1, b_gI, if_pos (lK0 L1), i15, if_pos rfl, b_gI, if_pos (lK0 L1), j14, if_neg n14, b_gI, if_pos (lK0 L1), j14, b_gR, if_pos (lK0 L1), lR0_3 L1, b_gN, if_pos (lK119 L1), lN119 L1, if_pos l9, b_pI, if_pos (lK0 L1), ← e2, b_gR, if_pos (lK0 L2), lR0_1 L2, b_gR, if_pos (lK0 L2), lR0_3 L2, b_gI, if_pos (lK0 L2), j14', b_gAR, if_pos (lK119 L2), lN119 L2, if_neg (bad_n (by omega) (by omega)), cl_of (by omega), ra, b_gR, if_pos (lK0 L2), lR0_2 L2, b_gR, if_pos (lK56 L2), r5, b_rcv, if_pos (lK55 L2), e, o_bind]
  have hbo : c + b = c + 2 ∨ c + b = c + 57 := by omega
  have IB : IsB H2 (c + b) := L2.b (by omega)
  have D : Dp c (c + b) p := ⟨hbo, by omega⟩
  have bag : Ag (c + b) (c + b + 5) h H2 := F2.ag (fun a u v => ⟨by omega, by omega, by omega⟩)
  have B4 : hI H2 (c + b) 4 = Int32.ofNat (bF (aB A)) := by rw [(bag (c + b) (by omega) (by omega)).2.2.1]; exact x5.1
  have Bn : ∀ f : Nat, f < bF (aB A) → hAL H2 (c + b + 1) f = cwd (bM (aB A) f) := fun f hf => by rw [(bag (c + b + 1) (by omega) (by omega)).2.2.2.2.2.2.1]; exact x6 f hf
  have Bt : ∀ f : Nat, f < bF (aB A) → hAI H2 (c + b + 2) f = Int32.ofNat (bT (aB A) f) := fun f hf => by rw [(bag (c + b + 2) (by omega) (by omega)).2.2.2.2.2.1]; exact (x5.2.2.1 f hf).1
  have dd : (∃ s : Nat, (s = 2 ∨ s = 57) ∧ hR h c 12 = some (c + s) ∧ p = c + s ∧ p + 7 = c + s + 53) ∨ (c + 120 + 7 * aN A 1 ≤ p ∧ p + 7 ≤ c + 183) := Or.inr ⟨by omega, by omega⟩
  rcases p_readTable (n := n) D ⟨W.1.1, wl⟩ L2 IP g2 (by omega) IB B4 Bn Bt with ⟨ne, h3, e3, ⟨F3, c3⟩, f3, p3⟩ | ⟨z0, WTT, h3, e3, ⟨F3, c3⟩, f3, CPP, CXX⟩
  · left
    have FF := F2.tr F3
    have KL0 : hK h3 c = 12 := lK0 (FF.cl L)
    have FE : CF c p (p + 7) h (sI h3 c 15 4) := FF.tr (CF.I0 15 4 (by omega))
    refine ⟨ne, sI h3 c 15 4, ?_, CR.cf W FE C0 dd ?_ (e_Iself _ _ _ _) ?_ (fun _ => ?_), FE.oc (by omega)⟩
    · rw [base _ e3, if_pos rfl, b_pI, if_pos (by exact KL0)]
    · rw [e_sI, if_neg (by omega), c3]; exact j13
    · rw [e_sI, if_neg (by omega)]; exact f3
    · rw [e_sI, if_neg (by omega)]; exact p3
  · right
    have FF := F2.tr F3
    have KL0 : hK h3 c = 12 := lK0 (FF.cl L)
    have k14 : hI h3 c 14 = Int32.ofNat k := by rw [c3]; exact j14'
    refine ⟨z0, ta_P W.1 wl WTT z0, fun k8 => ?_, fun k8 => ?_⟩
    · have CC : CR c h3 (fA A 0 0 0) := CR.cf W FF C0 dd (by rw [c3]; exact j13) (by rw [c3]; exact j15) f3 (fun e => absurd e (by decide))
      have l8 : Int32.ofNat k < 8 := by rw [show (8 : Int32) = Int32.ofNat 8 from rfl, lt_of' (by omega) (by omega)]; exact k8
      have hk : aN (fA A 0 0 0) 1 = k := by rw [fA_N _ _ _ _ (by decide), ek]
      rw [ep] at CPP CXX
      refine ⟨sI h3 c 14 (Int32.ofNat (k + 1)), ?_, CR.plA (W.fA _ _ _) CC hk k8 CPP CXX, (FF.oc (by omega)).tr (Oc.I0 14 _)⟩
      rw [base _ e3, if_neg n10, b_gI, if_pos (by exact KL0), k14, if_pos l8, b_gI, if_pos (by exact KL0), k14, b_pI, if_pos (by exact KL0), b_gI, if_pos (by exact KL0), e_Iself, s1_of, show (1 : Int32) = Int32.ofNat 1 from rfl, sub_of (by omega)]
      rfl
    · have l8 : ¬ Int32.ofNat k < 8 := by rw [show (8 : Int32) = Int32.ofNat 8 from rfl, lt_of' (by omega) (by omega)]; exact k8
      have FE : CF c p (p + 7) h (sI h3 c 15 3) := FF.tr (CF.I0 15 3 (by omega))
      refine ⟨sI h3 c 15 3, ?_, CR.cf W FE C0 dd ?_ (e_Iself _ _ _ _) ?_ (fun e => absurd e (by decide)), FE.oc (by omega)⟩
      · rw [base _ e3, if_neg n10, b_gI, if_pos (by exact KL0), k14, if_neg l8, b_pI, if_pos (by exact KL0)]
      · rw [e_sI, if_neg (by omega), c3]; exact j13
      · rw [e_sI, if_neg (by omega)]; exact f3
theorem q_tab1 {m : Nat} {h : MHp} {A : AS} {a : Int32} (R : RR m h A) (e : bF (aB A) = 0) : RS m h (mX16_table h m a) (-1) (tb A 1) := by
  have R0 := R.th 0
  have L := R0.1.1
  have e1 := q_refused L 1
  have r4 : hR (sI h m 0 0) m 4 = none := R.bkN e
  refine ⟨rtb m (sI h m 0 0) 1, ?_, R0.tb (by decide), (Om.th 0).tr Om.tb⟩
  rw [mX16_table, b_pI, if_pos (qK0 R.1.1), b_gR, if_pos (qK0 L), r4, if_pos rfl, b_rcv, if_pos (qK0 L), e1, o_bind]
theorem q_tab2 {m : Nat} {h : MHp} {A : AS} {a : Int32} (R : RR m h A) (W : WA A) (hB : ¬ bF (aB A) = 0) (ha : ∀ k : Nat, k < aN A 0 + 1 → a ≠ Int32.ofNat k) : RS m h (mX16_table h m a) (-1) (tb A 2) := by
  have u5 := W.2.1
  have R0 := R.th 0
  have L := R0.1.1
  have e := q_refused L 2
  have r4 : ¬ hR (sI h m 0 0) m 4 = none := R.bkS hB
  refine ⟨rtb m (sI h m 0 0) 2, ?_, R0.tb (by decide), (Om.th 0).tr Om.tb⟩
  by_cases h1 : a < 0
  · rw [mX16_table, b_pI, if_pos (qK0 R.1.1), b_gR, if_pos (qK0 L), if_neg r4, if_pos h1, mX16_table_b30, b_rcv, if_pos (qK0 L), e, o_bind]
  · obtain ⟨k, rfl, hk⟩ := ex_of h1
    have h2 : aN A 0 < k := Nat.lt_of_not_le (fun hh => ha k (by omega) rfl)
    rw [mX16_table, b_pI, if_pos (qK0 R.1.1), b_gR, if_pos (qK0 L), if_neg r4, if_neg h1, b_gI, if_pos (qK0 L), R0.2.1.1, if_neg (by rw [le_of hk (by omega)]; omega), mX16_table_b30, b_rcv, if_pos (qK0 L), e, o_bind]
/-- where the trouble and the tables are written doesn't depend on the order -/
theorem rtb_c (m : Nat) (h : MHp) (v : Int32) (g : Nat → Option Nat) : rtb m (sI (sAR h (m + 1) g) m 7 v) 0 = sI (sAR (rtb m h 0) (m + 1) g) m 7 v := by
  unfold rtb
  refine h_ext rfl rfl ?_ rfl rfl rfl rfl rfl rfl rfl
  funext a j
  rw [e_sI, e_sI, e_sI, e_I_sAR, e_sI, e_I_sAR, e_sI, e_sI]
  by_cases h7 : a = m ∧ j = 7
  · rw [if_neg (by omega), if_neg (by omega), if_pos h7, if_pos h7]
  · rw [if_neg h7, if_neg h7]
theorem q_tabx {m n : Nat} {h : MHp} {A : AS} (R : RR m h A) (W : WA A) (hB : ¬ bF (aB A) = 0) (hn : n ≤ aN A 0) : (taF (aA A 0) n (aB A) (tokAt (aA A 0) n 0) ≠ 0 → RS m h (mX16_table h m (Int32.ofNat n)) (-1) (fA A 4 (taF (aA A 0) n (aB A) (tokAt (aA A 0) n 0)) (Int32.ofNat (kS (taT (aA A 0) n (aB A) (tokAt (aA A 0) n 0)))))) ∧ (taF (aA A 0) n (aB A) (tokAt (aA A 0) n 0) = 0 → (aN A 1 < 8 → RS m h (mX16_table h m (Int32.ofNat n)) (Int32.ofNat (aN A 1)) (plA (fA A 0 0 0) (aN A 1) (taP (aA A 0) n (aB A) (tokAt (aA A 0) n 0)))) ∧ (¬ aN A 1 < 8 → RS m h (mX16_table h m (Int32.ofNat n)) (-1) (fA A 3 0 0))) := by
  have u5 := W.2.1
  have u8 := W.2.2.1
  obtain ⟨hb, wl, -⟩ : WZ (aA A 0) (aB A) := W.2.2.2.2.2.2.2.2.2.2.2.2.2.2.2.2.2.2.2
  have d26 := R.1.2.1
  have L := R.1.1
  obtain ⟨b, rb4, RBk⟩ := R.1.2.2.2 (by omega)
  have Bk : Bq m b h (aB A) := ⟨d26, rb4, RBk, W.1.1, wl⟩
  obtain ⟨Y0, e0⟩ : ∃ X : MHp, X = sI h m 0 0 := ⟨_, rfl⟩
  obtain ⟨Y1, e1⟩ : ∃ X : MHp, X = sI (sI (sI (sI Y0 m 11 (Int32.ofNat n)) m 10 0) m 12 0) m 3 0 := ⟨_, rfl⟩
  have Q0 : QF m h Y0 := by rw [e0]; exact QF.I 0 _ (by decide)
  have Q1 : QF m h Y1 := by rw [e1]; exact (((Q0.tr (QF.I 11 _ (by decide))).tr (QF.I 10 _ (by decide))).tr (QF.I 12 _ (by decide))).tr (QF.I 3 _ (by decide))
  have S1 : hS Y1 = hS h := by rw [e1, e0]; rfl
  have L0 : QL m Y0 := Q0.ql d26 L
  have L1 : QL m Y1 := Q1.ql d26 L
  have i11 : hI Y1 m 11 = Int32.ofNat n := by rw [e1, e_sI, if_neg (by omega), e_sI, if_neg (by omega), e_sI, if_neg (by omega), e_Iself]
  have i12 : hI Y1 m 12 = Int32.ofNat 0 := by rw [e1, e_sI, if_neg (by omega), e_Iself]; rfl
  have i10 : hI Y1 m 10 = 0 := by rw [e1, e_sI, if_neg (by omega), e_sI, if_neg (by omega), e_Iself]
  have i3 : hI Y1 m 3 = 0 := by rw [e1, e_Iself]
  have g1 : hAI Y1 (m + 3) = aA A 0 := by rw [(Q1.2.1 (m + 3) (by omega)).2.2.2.1]; exact R.2.2.1.1
  obtain ⟨Y2, e2, S2, P2⟩ := q_next hb ⟨L1, g1, i11, by omega⟩ i12 (Nat.zero_le n)
  have Q2 : QF m h Y2 := Q1.tr (QF.sn S2)
  have L2 : QL m Y2 := Q2.ql d26 L
  have sY2 : hS Y2 = hS h := by rw [S2.2.2.2.2.2.2.1]; exact S1
  have j10 : hI Y2 m 10 = 0 ∧ hI Y2 m 3 = 0 := by
    rw [S2.2.2.2.2.2.2.2.2 10 (by omega), S2.2.2.2.2.2.2.2.2 3 (by omega)]
    exact ⟨i10, i3⟩
  have ti : hI Y0 m 10 = Int32.ofNat (aN A 0) := by rw [e0, e_sI, if_neg (by omega)]; exact R.2.1.1
  have r4 : ¬ hR Y0 m 4 = none := by rw [e0]; exact R.bkS hB
  have lek : Int32.ofNat n ≤ Int32.ofNat (aN A 0) := by rw [le_of (by omega) (by omega)]; exact hn
  have pre1 : ∀ (q : Nat) (h2 : MHp), mX16_readTable Y2 m = some (Sum.inr q, h2) → mX16_table h m (Int32.ofNat n) = (rcv 17 h2 (some m)).bind fun b28 => (mX16_wrong h2 b28 (some q)).bind fun r27 => some (r27.1, r27.2) := fun q h2 e => by
    rw [mX16_table, b_pI, if_pos (qK0 L), ← e0, b_gR, if_pos (qK0 L0), if_neg r4, if_neg (nlt0 (by omega)), b_gI, if_pos (qK0 L0), ti, if_pos lek, b_rcv, if_pos (qK0 L0), q_begins L0, o_bind, ← e1, b_rcv, if_pos (qK0 L1), e2, o_bind, b_rcv, if_pos (qK0 L2), e, o_bind]
  have pre2 : ∀ (x : Option Nat) (h2 : MHp), mX16_readTable Y2 m = some (Sum.inl x, h2) → mX16_table h m (Int32.ofNat n) = (gI 17 7 h2 (some m)).bind fun x14 => (if x14 = 8 then (rcv 17 h2 (some m)).bind fun b24 => (mX16_refused h2 b24 3).bind fun r23 => some (r23.1, r23.2) else (gR 17 6 h2 (some m)).bind fun x15 => (gI 17 7 h2 (some m)).bind fun x16 => (pAR 26 15 h2 x15 x16 x).bind fun h17 => (gI 17 7 h17 (some m)).bind fun x18 => (pI 17 7 h17 (some m) (x18 + 1)).bind fun h19 => (gI 17 7 h19 (some m)).bind fun x20 => (rcv 17 h19 (some m)).bind fun b22 => (mX16_done h19 b22 (x20 - 1)).bind fun r21 => some (r21.1, r21.2)) := fun x h2 e => by
    rw [mX16_table, b_pI, if_pos (qK0 L), ← e0, b_gR, if_pos (qK0 L0), if_neg r4, if_neg (nlt0 (by omega)), b_gI, if_pos (qK0 L0), ti, if_pos lek, b_rcv, if_pos (qK0 L0), q_begins L0, o_bind, ← e1, b_rcv, if_pos (qK0 L1), e2, o_bind, b_rcv, if_pos (qK0 L2), e, o_bind]
  obtain ⟨r1, r2⟩ := q_readTable hb Bk Q2 P2 j10 (GT_0 _ _)
  refine ⟨fun hh => ?_, fun hh => ?_⟩
  · obtain ⟨h2, ee, Q5, t10, f2, p2⟩ := r1 hh
    have L5 := Q5.ql d26 L
    have RW := RR.wrong Q5 R t10
    have ew := q_wrong L5
    rw [f2, p2] at RW ew
    refine ⟨_, ?_, RW, (((Q5.tr (QF.I 3 _ (by decide))).tr (QF.I 1 _ (by decide))).tr (QF.I 2 _ (by decide))).om (by omega)⟩
    rw [pre1 _ _ ee, b_rcv, if_pos (qK0 L5), ew, o_bind]
  · obtain ⟨h2, ee, Q5, pH, t10, t3, RPP, RXX⟩ := r2 hh
    have L5 := Q5.ql d26 L
    obtain ⟨k, ek⟩ : ∃ k : Nat, k = aN A 1 := ⟨_, rfl⟩
    have i7 : hI h2 m 7 = Int32.ofNat k := by rw [Q5.2.2 7 (by decide), ek]; exact R.2.1.2.1
    rw [← ek] at u8 ⊢
    rw [sY2] at ee RPP RXX pH
    refine ⟨fun k8 => ?_, fun k8 => ?_⟩
    · have n8 : ¬ Int32.ofNat k = 8 := by rw [show (8 : Int32) = Int32.ofNat 8 from rfl, eq_of (by omega) (by omega)]; omega
      obtain ⟨X, eX⟩ : ∃ X : MHp, X = sAR h2 (m + 1) (va_up (hAR h2 (m + 1)) k (some (hS h))) := ⟨_, rfl⟩
      have LX : QL m X := by rw [eX]; exact L5
      have x7 : hI X m 7 = Int32.ofNat k := by rw [eX]; exact i7
      obtain ⟨Z, eZ⟩ : ∃ Z : MHp, Z = sI X m 7 (Int32.ofNat (k + 1)) := ⟨_, rfl⟩
      have LZ : QL m Z := by rw [eZ]; exact LX
      have z7 : hI Z m 7 = Int32.ofNat (k + 1) := by rw [eZ, e_Iself]
      have qd := q_done LZ (Int32.ofNat (k + 1) - 1)
      have s1 : Int32.ofNat (k + 1) - 1 = Int32.ofNat k := by
        rw [show (1 : Int32) = Int32.ofNat 1 from rfl, sub_of (by omega)]
        rfl
      have fR : QF m h (rtb m h2 0) := (Q5.tr (QF.I 1 _ (by decide))).tr (QF.I 2 _ (by decide))
      have RX0 : RR m (rtb m h2 0) (fA A 0 0 0) := by
        refine RR.qf fR R ?_ ?_ ?_ ?_
        · unfold rtb; rw [e_sI, if_neg (by omega), e_sI, if_neg (by omega)]; exact t10
        · unfold rtb; rw [e_sI, if_neg (by omega), e_Iself]
        · unfold rtb; rw [e_sI, if_neg (by omega), e_sI, if_neg (by omega)]; exact t3
        · unfold rtb; rw [e_Iself, if_neg (by decide)]
      have hk : aN (fA A 0 0 0) 1 = k := by rw [fA_N _ _ _ _ (by decide), ek]
      have bS := RPP.2.2.2.2.1
      have rag : Ag (m + 26) (hS h2) h2 (rtb m h2 0) := (Ag.I _ _ _ (by omega)).tr (Ag.I _ _ _ (by omega))
      have RP0 : RP (m + 26) (rtb m h2 0) (hS h) _ := RPP.ag rag (Nat.le_refl _)
      have RX1 : RX (rtb m h2 0) (hS h) (fun _ => none) := RXX.ag (rag.sub (by omega) (by omega))
      have sep : ∀ j q : Nat, j < k → hAR (rtb m h2 0) (m + 1) j = some q → q + 4 ≤ hS h := fun j q hj e => by
        have e' : hAR h2 (m + 1) j = some q := e
        rw [(Q5.2.1 (m + 1) (by omega)).2.2.1] at e'
        obtain ⟨p', p1, p2, -⟩ := R.2.2.2.2.2 j (by omega)
        rw [p1] at e'
        have := Option.some.inj e'
        have := p2.2.2.2.2.1
        omega
      have RF := RR.plA RX0 hk RP0 RX1 sep
      have eF : rtb m Z 0 = sI (sAR (rtb m h2 0) (m + 1) (va_up (hAR (rtb m h2 0) (m + 1)) k (some (hS h)))) m 7 (Int32.ofNat (k + 1)) := by
        rw [eZ, eX]
        exact rtb_c m h2 _ _
      rw [← eF] at RF
      refine ⟨rtb m Z 0, ?_, RF, (Q5.om (by omega)).tr ?_⟩
      · rw [pre2 _ _ ee, b_gI, if_pos (qK0 L5), i7, if_neg n8, b_gR, if_pos (qK0 L5), qR6 L5, b_gI, if_pos (qK0 L5), i7, b_pAR2 _ _ _ _ _ (qK1 L5) RPP.1.1 (by rw [qN1 L5]; exact bad_n (by omega) (by omega)), cl_of (by omega), ← eX, b_gI, if_pos (qK0 LX), x7, b_pI, if_pos (qK0 LX), s1_of, ← eZ, b_gI, if_pos (qK0 LZ), z7, b_rcv, if_pos (qK0 LZ), qd, o_bind, s1]
      · refine ⟨by rw [eZ, eX]; exact Nat.le_refl _, ?_⟩
        rw [eZ, eX]
        exact ((((Ag.AR _ _ (by omega)).tr (Ag.I _ _ _ (by omega))).tr (Ag.I _ _ _ (by omega))).tr (Ag.I _ _ _ (by omega)))
    · have e8 : Int32.ofNat k = 8 := by rw [show k = 8 by omega]; rfl
      have qr := q_refused L5 3
      refine ⟨rtb m h2 3, ?_, RR.qf ((Q5.tr (QF.I 1 _ (by decide))).tr (QF.I 2 _ (by decide))) R ?_ ?_ ?_ ?_, (Q5.om (by omega)).tr Om.tb⟩
      · rw [pre2 _ _ ee, b_gI, if_pos (qK0 L5), i7, if_pos e8, b_rcv, if_pos (qK0 L5), qr, o_bind]
      · unfold rtb; rw [e_sI, if_neg (by omega), e_sI, if_neg (by omega)]; exact t10
      · unfold rtb; rw [e_sI, if_neg (by omega), e_Iself]
      · unfold rtb; rw [e_sI, if_neg (by omega), e_sI, if_neg (by omega)]; exact t3
      · unfold rtb; rw [e_Iself, if_neg (by decide)]
theorem x_table {c m : Nat} {h : MHp} {A : AS} (C : CR c h A) (W : WA A) (a : Int32) : XS c m h A (mX11_table h c a) (fun h1 => mX16_table h1 m a) := by
  have hb := p_hasBook C W
  obtain ⟨⟨b, s, L, -⟩, y, -⟩ := id C
  by_cases hB : bF (aB A) = 0
  · rw [if_pos hB] at hb
    refine ⟨-1, tb A 1, W, ⟨sI h c 15 1, ?_, C.tb (by decide), Oc.I0 15 1⟩, fun h1 R => q_tab1 R hB⟩
    rw [mX11_table, b_rcv, if_pos (lK0 L), hb, o_bind, if_pos rfl, c_tabNo L _ _ n10]
  · rw [if_neg hB] at hb
    rcases rng a (aN A 0 + 1) with ⟨n, hn, rfl⟩ | hno
    · have hn' : n ≤ aN A 0 := by omega
      rcases c_table C W (by omega) hn' with ⟨ne, D⟩ | ⟨e, WPP, D1, D2⟩
      · exact ⟨_, _, W.fA _ _ _, D, fun h1 R => (q_tabx R W hB hn').1 ne⟩
      · by_cases k8 : aN A 1 < 8
        · exact ⟨_, _, (W.fA 0 0 0).plA (fA_N _ _ _ _ (by decide)) k8 WPP (show 0 < bF (aB A) by omega), D1 k8, fun h1 R => ((q_tabx R W hB hn').2 e).1 k8⟩
        · exact ⟨_, _, W.fA _ _ _, D2 k8, fun h1 R => ((q_tabx R W hB hn').2 e).2 k8⟩
    · refine ⟨-1, tb A 2, W, ⟨sI h c 15 2, ?_, C.tb (by decide), Oc.I0 15 2⟩, fun h1 R => q_tab2 R W hB hno⟩
      rw [mX11_table, b_rcv, if_pos (lK0 L), hb, o_bind, if_neg n10, b_rcv, if_pos (lK0 L), p_tape0 L y.1 W.2.1 hno, o_bind, if_pos rfl, c_tabNo L _ _ n20]
